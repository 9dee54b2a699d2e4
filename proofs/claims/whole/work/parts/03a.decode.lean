theorem dX0_init_0 : decode cX0_init 0 = .ok (.aload_n 0, 1) := by decide +kernel
theorem dX0_init_1 : decode cX0_init 1 = .ok (.invokespecial 3, 3) := by decide +kernel
theorem dX0_init_4 : decode cX0_init 4 = .ok (.aload_n 0, 1) := by decide +kernel
theorem dX0_init_5 : decode cX0_init 5 = .ok (.iconst 0, 1) := by decide +kernel
theorem dX0_init_6 : decode cX0_init 6 = .ok (.putfield 9, 3) := by decide +kernel
theorem dX0_init_9 : decode cX0_init 9 = .ok (.aload_n 0, 1) := by decide +kernel
theorem dX0_init_10 : decode cX0_init 10 = .ok (.iconst 0, 1) := by decide +kernel
theorem dX0_init_11 : decode cX0_init 11 = .ok (.putfield 15, 3) := by decide +kernel
theorem dX0_init_14 : decode cX0_init 14 = .ok (.aload_n 0, 1) := by decide +kernel
theorem dX0_init_15 : decode cX0_init 15 = .ok (.bipush 12, 2) := by decide +kernel
theorem dX0_init_17 : decode cX0_init 17 = .ok (.newarray .int, 2) := by decide +kernel
theorem dX0_init_19 : decode cX0_init 19 = .ok (.putfield 18, 3) := by decide +kernel
theorem dX0_init_22 : decode cX0_init 22 = .ok (.aload_n 0, 1) := by decide +kernel
theorem dX0_init_23 : decode cX0_init 23 = .ok (.bipush 12, 2) := by decide +kernel
theorem dX0_init_25 : decode cX0_init 25 = .ok (.newarray .int, 2) := by decide +kernel
theorem dX0_init_27 : decode cX0_init 27 = .ok (.putfield 22, 3) := by decide +kernel
theorem dX0_init_30 : decode cX0_init 30 = .ok (.aload_n 0, 1) := by decide +kernel
theorem dX0_init_31 : decode cX0_init 31 = .ok (.bipush 12, 2) := by decide +kernel
theorem dX0_init_33 : decode cX0_init 33 = .ok (.newarray .int, 2) := by decide +kernel
theorem dX0_init_35 : decode cX0_init 35 = .ok (.putfield 25, 3) := by decide +kernel
theorem dX0_init_38 : decode cX0_init 38 = .ok (.return_, 1) := by decide +kernel
theorem dX0_add_0 : decode cX0_add 0 = .ok (.aload_n 0, 1) := by decide +kernel
theorem dX0_add_1 : decode cX0_add 1 = .ok (.getfield 18, 3) := by decide +kernel
theorem dX0_add_4 : decode cX0_add 4 = .ok (.aload_n 0, 1) := by decide +kernel
theorem dX0_add_5 : decode cX0_add 5 = .ok (.getfield 15, 3) := by decide +kernel
theorem dX0_add_8 : decode cX0_add 8 = .ok (.iload_n 1, 1) := by decide +kernel
theorem dX0_add_9 : decode cX0_add 9 = .ok (.iastore, 1) := by decide +kernel
theorem dX0_add_10 : decode cX0_add 10 = .ok (.aload_n 0, 1) := by decide +kernel
theorem dX0_add_11 : decode cX0_add 11 = .ok (.getfield 22, 3) := by decide +kernel
theorem dX0_add_14 : decode cX0_add 14 = .ok (.aload_n 0, 1) := by decide +kernel
theorem dX0_add_15 : decode cX0_add 15 = .ok (.getfield 15, 3) := by decide +kernel
theorem dX0_add_18 : decode cX0_add 18 = .ok (.iload_n 2, 1) := by decide +kernel
theorem dX0_add_19 : decode cX0_add 19 = .ok (.iastore, 1) := by decide +kernel
theorem dX0_add_20 : decode cX0_add 20 = .ok (.aload_n 0, 1) := by decide +kernel
theorem dX0_add_21 : decode cX0_add 21 = .ok (.getfield 25, 3) := by decide +kernel
theorem dX0_add_24 : decode cX0_add 24 = .ok (.aload_n 0, 1) := by decide +kernel
theorem dX0_add_25 : decode cX0_add 25 = .ok (.getfield 15, 3) := by decide +kernel
theorem dX0_add_28 : decode cX0_add 28 = .ok (.iload_n 3, 1) := by decide +kernel
theorem dX0_add_29 : decode cX0_add 29 = .ok (.iastore, 1) := by decide +kernel
theorem dX0_add_30 : decode cX0_add 30 = .ok (.aload_n 0, 1) := by decide +kernel
theorem dX0_add_31 : decode cX0_add 31 = .ok (.aload_n 0, 1) := by decide +kernel
theorem dX0_add_32 : decode cX0_add 32 = .ok (.getfield 15, 3) := by decide +kernel
theorem dX0_add_35 : decode cX0_add 35 = .ok (.iconst 1, 1) := by decide +kernel
theorem dX0_add_36 : decode cX0_add 36 = .ok (.iadd, 1) := by decide +kernel
theorem dX0_add_37 : decode cX0_add 37 = .ok (.bipush 12, 2) := by decide +kernel
theorem dX0_add_39 : decode cX0_add 39 = .ok (.irem, 1) := by decide +kernel
theorem dX0_add_40 : decode cX0_add 40 = .ok (.putfield 15, 3) := by decide +kernel
theorem dX0_add_43 : decode cX0_add 43 = .ok (.aload_n 0, 1) := by decide +kernel
theorem dX0_add_44 : decode cX0_add 44 = .ok (.aload_n 0, 1) := by decide +kernel
theorem dX0_add_45 : decode cX0_add 45 = .ok (.getfield 9, 3) := by decide +kernel
theorem dX0_add_48 : decode cX0_add 48 = .ok (.iconst 1, 1) := by decide +kernel
theorem dX0_add_49 : decode cX0_add 49 = .ok (.iadd, 1) := by decide +kernel
theorem dX0_add_50 : decode cX0_add 50 = .ok (.bipush 12, 2) := by decide +kernel
theorem dX0_add_52 : decode cX0_add 52 = .ok (.invokestatic 28, 3) := by decide +kernel
theorem dX0_add_55 : decode cX0_add 55 = .ok (.putfield 9, 3) := by decide +kernel
theorem dX0_add_58 : decode cX0_add 58 = .ok (.return_, 1) := by decide +kernel
theorem dX0_takeLatest_0 : decode cX0_takeLatest 0 = .ok (.aload_n 0, 1) := by decide +kernel
theorem dX0_takeLatest_1 : decode cX0_takeLatest 1 = .ok (.aload_n 0, 1) := by decide +kernel
theorem dX0_takeLatest_2 : decode cX0_takeLatest 2 = .ok (.getfield 15, 3) := by decide +kernel
theorem dX0_takeLatest_5 : decode cX0_takeLatest 5 = .ok (.bipush 12, 2) := by decide +kernel
theorem dX0_takeLatest_7 : decode cX0_takeLatest 7 = .ok (.iadd, 1) := by decide +kernel
theorem dX0_takeLatest_8 : decode cX0_takeLatest 8 = .ok (.iconst 1, 1) := by decide +kernel
theorem dX0_takeLatest_9 : decode cX0_takeLatest 9 = .ok (.isub, 1) := by decide +kernel
theorem dX0_takeLatest_10 : decode cX0_takeLatest 10 = .ok (.bipush 12, 2) := by decide +kernel
theorem dX0_takeLatest_12 : decode cX0_takeLatest 12 = .ok (.irem, 1) := by decide +kernel
theorem dX0_takeLatest_13 : decode cX0_takeLatest 13 = .ok (.putfield 15, 3) := by decide +kernel
theorem dX0_takeLatest_16 : decode cX0_takeLatest 16 = .ok (.aload_n 0, 1) := by decide +kernel
theorem dX0_takeLatest_17 : decode cX0_takeLatest 17 = .ok (.dup, 1) := by decide +kernel
theorem dX0_takeLatest_18 : decode cX0_takeLatest 18 = .ok (.getfield 9, 3) := by decide +kernel
theorem dX0_takeLatest_21 : decode cX0_takeLatest 21 = .ok (.iconst 1, 1) := by decide +kernel
theorem dX0_takeLatest_22 : decode cX0_takeLatest 22 = .ok (.isub, 1) := by decide +kernel
theorem dX0_takeLatest_23 : decode cX0_takeLatest 23 = .ok (.putfield 9, 3) := by decide +kernel
theorem dX0_takeLatest_26 : decode cX0_takeLatest 26 = .ok (.aload_n 0, 1) := by decide +kernel
theorem dX0_takeLatest_27 : decode cX0_takeLatest 27 = .ok (.getfield 15, 3) := by decide +kernel
theorem dX0_takeLatest_30 : decode cX0_takeLatest 30 = .ok (.ireturn, 1) := by decide +kernel
theorem dX1_init_0 : decode cX1_init 0 = .ok (.aload_n 0, 1) := by decide +kernel
theorem dX1_init_1 : decode cX1_init 1 = .ok (.invokespecial 3, 3) := by decide +kernel
theorem dX1_init_4 : decode cX1_init 4 = .ok (.aload_n 0, 1) := by decide +kernel
theorem dX1_init_5 : decode cX1_init 5 = .ok (.iconst 3, 1) := by decide +kernel
theorem dX1_init_6 : decode cX1_init 6 = .ok (.putfield 9, 3) := by decide +kernel
theorem dX1_init_9 : decode cX1_init 9 = .ok (.aload_n 0, 1) := by decide +kernel
theorem dX1_init_10 : decode cX1_init 10 = .ok (.iconst 3, 1) := by decide +kernel
theorem dX1_init_11 : decode cX1_init 11 = .ok (.putfield 15, 3) := by decide +kernel
theorem dX1_init_14 : decode cX1_init 14 = .ok (.aload_n 0, 1) := by decide +kernel
theorem dX1_init_15 : decode cX1_init 15 = .ok (.iconst 0, 1) := by decide +kernel
theorem dX1_init_16 : decode cX1_init 16 = .ok (.putfield 18, 3) := by decide +kernel
theorem dX1_init_19 : decode cX1_init 19 = .ok (.aload_n 0, 1) := by decide +kernel
theorem dX1_init_20 : decode cX1_init 20 = .ok (.iconst 0, 1) := by decide +kernel
theorem dX1_init_21 : decode cX1_init 21 = .ok (.putfield 21, 3) := by decide +kernel
theorem dX1_init_24 : decode cX1_init 24 = .ok (.aload_n 0, 1) := by decide +kernel
theorem dX1_init_25 : decode cX1_init 25 = .ok (.iconst 0, 1) := by decide +kernel
theorem dX1_init_26 : decode cX1_init 26 = .ok (.putfield 24, 3) := by decide +kernel
theorem dX1_init_29 : decode cX1_init 29 = .ok (.aload_n 0, 1) := by decide +kernel
theorem dX1_init_30 : decode cX1_init 30 = .ok (.iconst 0, 1) := by decide +kernel
theorem dX1_init_31 : decode cX1_init 31 = .ok (.putfield 27, 3) := by decide +kernel
theorem dX1_init_34 : decode cX1_init 34 = .ok (.aload_n 0, 1) := by decide +kernel
theorem dX1_init_35 : decode cX1_init 35 = .ok (.bipush 12, 2) := by decide +kernel
theorem dX1_init_37 : decode cX1_init 37 = .ok (.newarray .int, 2) := by decide +kernel
theorem dX1_init_39 : decode cX1_init 39 = .ok (.putfield 30, 3) := by decide +kernel
theorem dX1_init_42 : decode cX1_init 42 = .ok (.aload_n 0, 1) := by decide +kernel
theorem dX1_init_43 : decode cX1_init 43 = .ok (.bipush 12, 2) := by decide +kernel
theorem dX1_init_45 : decode cX1_init 45 = .ok (.newarray .int, 2) := by decide +kernel
theorem dX1_init_47 : decode cX1_init 47 = .ok (.putfield 34, 3) := by decide +kernel
theorem dX1_init_50 : decode cX1_init 50 = .ok (.aload_n 0, 1) := by decide +kernel
theorem dX1_init_51 : decode cX1_init 51 = .ok (.bipush 12, 2) := by decide +kernel
theorem dX1_init_53 : decode cX1_init 53 = .ok (.newarray .int, 2) := by decide +kernel
theorem dX1_init_55 : decode cX1_init 55 = .ok (.putfield 37, 3) := by decide +kernel
theorem dX1_init_58 : decode cX1_init 58 = .ok (.aload_n 0, 1) := by decide +kernel
theorem dX1_init_59 : decode cX1_init 59 = .ok (.bipush 12, 2) := by decide +kernel
theorem dX1_init_61 : decode cX1_init 61 = .ok (.newarray .int, 2) := by decide +kernel
theorem dX1_init_63 : decode cX1_init 63 = .ok (.putfield 40, 3) := by decide +kernel
theorem dX1_init_66 : decode cX1_init 66 = .ok (.aload_n 0, 1) := by decide +kernel
theorem dX1_init_67 : decode cX1_init 67 = .ok (.bipush 12, 2) := by decide +kernel
theorem dX1_init_69 : decode cX1_init 69 = .ok (.newarray .int, 2) := by decide +kernel
theorem dX1_init_71 : decode cX1_init 71 = .ok (.putfield 43, 3) := by decide +kernel
theorem dX1_init_74 : decode cX1_init 74 = .ok (.aload_n 0, 1) := by decide +kernel
theorem dX1_init_75 : decode cX1_init 75 = .ok (.bipush 12, 2) := by decide +kernel
theorem dX1_init_77 : decode cX1_init 77 = .ok (.newarray .int, 2) := by decide +kernel
theorem dX1_init_79 : decode cX1_init 79 = .ok (.putfield 46, 3) := by decide +kernel
theorem dX1_init_82 : decode cX1_init 82 = .ok (.aload_n 0, 1) := by decide +kernel
theorem dX1_init_83 : decode cX1_init 83 = .ok (.bipush 12, 2) := by decide +kernel
theorem dX1_init_85 : decode cX1_init 85 = .ok (.newarray .int, 2) := by decide +kernel
theorem dX1_init_87 : decode cX1_init 87 = .ok (.putfield 49, 3) := by decide +kernel
theorem dX1_init_90 : decode cX1_init 90 = .ok (.aload_n 0, 1) := by decide +kernel
theorem dX1_init_91 : decode cX1_init 91 = .ok (.bipush 12, 2) := by decide +kernel
theorem dX1_init_93 : decode cX1_init 93 = .ok (.newarray .int, 2) := by decide +kernel
theorem dX1_init_95 : decode cX1_init 95 = .ok (.putfield 52, 3) := by decide +kernel
theorem dX1_init_98 : decode cX1_init 98 = .ok (.aload_n 0, 1) := by decide +kernel
theorem dX1_init_99 : decode cX1_init 99 = .ok (.sipush 288, 3) := by decide +kernel
theorem dX1_init_102 : decode cX1_init 102 = .ok (.newarray .int, 2) := by decide +kernel
theorem dX1_init_104 : decode cX1_init 104 = .ok (.putfield 55, 3) := by decide +kernel
theorem dX1_init_107 : decode cX1_init 107 = .ok (.return_, 1) := by decide +kernel
theorem dX1_clear_0 : decode cX1_clear 0 = .ok (.aload_n 0, 1) := by decide +kernel
theorem dX1_clear_1 : decode cX1_clear 1 = .ok (.iconst 3, 1) := by decide +kernel
theorem dX1_clear_2 : decode cX1_clear 2 = .ok (.putfield 9, 3) := by decide +kernel
theorem dX1_clear_5 : decode cX1_clear 5 = .ok (.aload_n 0, 1) := by decide +kernel
theorem dX1_clear_6 : decode cX1_clear 6 = .ok (.iconst 3, 1) := by decide +kernel
theorem dX1_clear_7 : decode cX1_clear 7 = .ok (.putfield 15, 3) := by decide +kernel
theorem dX1_clear_10 : decode cX1_clear 10 = .ok (.aload_n 0, 1) := by decide +kernel
theorem dX1_clear_11 : decode cX1_clear 11 = .ok (.iconst 0, 1) := by decide +kernel
theorem dX1_clear_12 : decode cX1_clear 12 = .ok (.putfield 18, 3) := by decide +kernel
theorem dX1_clear_15 : decode cX1_clear 15 = .ok (.aload_n 0, 1) := by decide +kernel
theorem dX1_clear_16 : decode cX1_clear 16 = .ok (.iconst 0, 1) := by decide +kernel
theorem dX1_clear_17 : decode cX1_clear 17 = .ok (.putfield 21, 3) := by decide +kernel
theorem dX1_clear_20 : decode cX1_clear 20 = .ok (.aload_n 0, 1) := by decide +kernel
theorem dX1_clear_21 : decode cX1_clear 21 = .ok (.iconst 0, 1) := by decide +kernel
theorem dX1_clear_22 : decode cX1_clear 22 = .ok (.putfield 24, 3) := by decide +kernel
theorem dX1_clear_25 : decode cX1_clear 25 = .ok (.aload_n 0, 1) := by decide +kernel
theorem dX1_clear_26 : decode cX1_clear 26 = .ok (.iconst 0, 1) := by decide +kernel
theorem dX1_clear_27 : decode cX1_clear 27 = .ok (.putfield 27, 3) := by decide +kernel
theorem dX1_clear_30 : decode cX1_clear 30 = .ok (.iconst 0, 1) := by decide +kernel
theorem dX1_clear_31 : decode cX1_clear 31 = .ok (.istore_n 1, 1) := by decide +kernel
theorem dX1_clear_32 : decode cX1_clear 32 = .ok (.iload_n 1, 1) := by decide +kernel
theorem dX1_clear_33 : decode cX1_clear 33 = .ok (.aload_n 0, 1) := by decide +kernel
theorem dX1_clear_34 : decode cX1_clear 34 = .ok (.getfield 55, 3) := by decide +kernel
theorem dX1_clear_37 : decode cX1_clear 37 = .ok (.arraylength, 1) := by decide +kernel
theorem dX1_clear_38 : decode cX1_clear 38 = .ok (.if_icmp .ge 16, 3) := by decide +kernel
theorem dX1_clear_41 : decode cX1_clear 41 = .ok (.aload_n 0, 1) := by decide +kernel
theorem dX1_clear_42 : decode cX1_clear 42 = .ok (.getfield 55, 3) := by decide +kernel
theorem dX1_clear_45 : decode cX1_clear 45 = .ok (.iload_n 1, 1) := by decide +kernel
theorem dX1_clear_46 : decode cX1_clear 46 = .ok (.iconst 0, 1) := by decide +kernel
theorem dX1_clear_47 : decode cX1_clear 47 = .ok (.iastore, 1) := by decide +kernel
theorem dX1_clear_48 : decode cX1_clear 48 = .ok (.iinc 1 1, 3) := by decide +kernel
theorem dX1_clear_51 : decode cX1_clear 51 = .ok (.goto (-19), 3) := by decide +kernel
theorem dX1_clear_54 : decode cX1_clear 54 = .ok (.return_, 1) := by decide +kernel
theorem dX1_copyLinksOf_0 : decode cX1_copyLinksOf 0 = .ok (.aload_n 0, 1) := by decide +kernel
theorem dX1_copyLinksOf_1 : decode cX1_copyLinksOf 1 = .ok (.aload_n 1, 1) := by decide +kernel
theorem dX1_copyLinksOf_2 : decode cX1_copyLinksOf 2 = .ok (.getfield 18, 3) := by decide +kernel
theorem dX1_copyLinksOf_5 : decode cX1_copyLinksOf 5 = .ok (.putfield 18, 3) := by decide +kernel
theorem dX1_copyLinksOf_8 : decode cX1_copyLinksOf 8 = .ok (.aload_n 0, 1) := by decide +kernel
theorem dX1_copyLinksOf_9 : decode cX1_copyLinksOf 9 = .ok (.aload_n 1, 1) := by decide +kernel
theorem dX1_copyLinksOf_10 : decode cX1_copyLinksOf 10 = .ok (.getfield 24, 3) := by decide +kernel
theorem dX1_copyLinksOf_13 : decode cX1_copyLinksOf 13 = .ok (.putfield 24, 3) := by decide +kernel
theorem dX1_copyLinksOf_16 : decode cX1_copyLinksOf 16 = .ok (.aload_n 0, 1) := by decide +kernel
theorem dX1_copyLinksOf_17 : decode cX1_copyLinksOf 17 = .ok (.aload_n 1, 1) := by decide +kernel
theorem dX1_copyLinksOf_18 : decode cX1_copyLinksOf 18 = .ok (.getfield 27, 3) := by decide +kernel
theorem dX1_copyLinksOf_21 : decode cX1_copyLinksOf 21 = .ok (.putfield 27, 3) := by decide +kernel
theorem dX1_copyLinksOf_24 : decode cX1_copyLinksOf 24 = .ok (.iconst 0, 1) := by decide +kernel
theorem dX1_copyLinksOf_25 : decode cX1_copyLinksOf 25 = .ok (.istore_n 2, 1) := by decide +kernel
theorem dX1_copyLinksOf_26 : decode cX1_copyLinksOf 26 = .ok (.iload_n 2, 1) := by decide +kernel
theorem dX1_copyLinksOf_27 : decode cX1_copyLinksOf 27 = .ok (.bipush 12, 2) := by decide +kernel
theorem dX1_copyLinksOf_29 : decode cX1_copyLinksOf 29 = .ok (.if_icmp .ge 57, 3) := by decide +kernel
theorem dX1_copyLinksOf_32 : decode cX1_copyLinksOf 32 = .ok (.aload_n 0, 1) := by decide +kernel
theorem dX1_copyLinksOf_33 : decode cX1_copyLinksOf 33 = .ok (.getfield 43, 3) := by decide +kernel
theorem dX1_copyLinksOf_36 : decode cX1_copyLinksOf 36 = .ok (.iload_n 2, 1) := by decide +kernel
theorem dX1_copyLinksOf_37 : decode cX1_copyLinksOf 37 = .ok (.aload_n 1, 1) := by decide +kernel
theorem dX1_copyLinksOf_38 : decode cX1_copyLinksOf 38 = .ok (.getfield 43, 3) := by decide +kernel
theorem dX1_copyLinksOf_41 : decode cX1_copyLinksOf 41 = .ok (.iload_n 2, 1) := by decide +kernel
theorem dX1_copyLinksOf_42 : decode cX1_copyLinksOf 42 = .ok (.iaload, 1) := by decide +kernel
theorem dX1_copyLinksOf_43 : decode cX1_copyLinksOf 43 = .ok (.iastore, 1) := by decide +kernel
theorem dX1_copyLinksOf_44 : decode cX1_copyLinksOf 44 = .ok (.aload_n 0, 1) := by decide +kernel
theorem dX1_copyLinksOf_45 : decode cX1_copyLinksOf 45 = .ok (.getfield 46, 3) := by decide +kernel
theorem dX1_copyLinksOf_48 : decode cX1_copyLinksOf 48 = .ok (.iload_n 2, 1) := by decide +kernel
theorem dX1_copyLinksOf_49 : decode cX1_copyLinksOf 49 = .ok (.aload_n 1, 1) := by decide +kernel
theorem dX1_copyLinksOf_50 : decode cX1_copyLinksOf 50 = .ok (.getfield 46, 3) := by decide +kernel
theorem dX1_copyLinksOf_53 : decode cX1_copyLinksOf 53 = .ok (.iload_n 2, 1) := by decide +kernel
theorem dX1_copyLinksOf_54 : decode cX1_copyLinksOf 54 = .ok (.iaload, 1) := by decide +kernel
theorem dX1_copyLinksOf_55 : decode cX1_copyLinksOf 55 = .ok (.iastore, 1) := by decide +kernel
theorem dX1_copyLinksOf_56 : decode cX1_copyLinksOf 56 = .ok (.aload_n 0, 1) := by decide +kernel
theorem dX1_copyLinksOf_57 : decode cX1_copyLinksOf 57 = .ok (.getfield 49, 3) := by decide +kernel
theorem dX1_copyLinksOf_60 : decode cX1_copyLinksOf 60 = .ok (.iload_n 2, 1) := by decide +kernel
theorem dX1_copyLinksOf_61 : decode cX1_copyLinksOf 61 = .ok (.aload_n 1, 1) := by decide +kernel
theorem dX1_copyLinksOf_62 : decode cX1_copyLinksOf 62 = .ok (.getfield 49, 3) := by decide +kernel
theorem dX1_copyLinksOf_65 : decode cX1_copyLinksOf 65 = .ok (.iload_n 2, 1) := by decide +kernel
theorem dX1_copyLinksOf_66 : decode cX1_copyLinksOf 66 = .ok (.iaload, 1) := by decide +kernel
theorem dX1_copyLinksOf_67 : decode cX1_copyLinksOf 67 = .ok (.iastore, 1) := by decide +kernel
theorem dX1_copyLinksOf_68 : decode cX1_copyLinksOf 68 = .ok (.aload_n 0, 1) := by decide +kernel
theorem dX1_copyLinksOf_69 : decode cX1_copyLinksOf 69 = .ok (.getfield 52, 3) := by decide +kernel
theorem dX1_copyLinksOf_72 : decode cX1_copyLinksOf 72 = .ok (.iload_n 2, 1) := by decide +kernel
theorem dX1_copyLinksOf_73 : decode cX1_copyLinksOf 73 = .ok (.aload_n 1, 1) := by decide +kernel
theorem dX1_copyLinksOf_74 : decode cX1_copyLinksOf 74 = .ok (.getfield 52, 3) := by decide +kernel
theorem dX1_copyLinksOf_77 : decode cX1_copyLinksOf 77 = .ok (.iload_n 2, 1) := by decide +kernel
theorem dX1_copyLinksOf_78 : decode cX1_copyLinksOf 78 = .ok (.iaload, 1) := by decide +kernel
theorem dX1_copyLinksOf_79 : decode cX1_copyLinksOf 79 = .ok (.iastore, 1) := by decide +kernel
theorem dX1_copyLinksOf_80 : decode cX1_copyLinksOf 80 = .ok (.iinc 2 1, 3) := by decide +kernel
theorem dX1_copyLinksOf_83 : decode cX1_copyLinksOf 83 = .ok (.goto (-57), 3) := by decide +kernel
theorem dX1_copyLinksOf_86 : decode cX1_copyLinksOf 86 = .ok (.return_, 1) := by decide +kernel
theorem dX1_has_0 : decode cX1_has 0 = .ok (.iload_n 1, 1) := by decide +kernel
theorem dX1_has_1 : decode cX1_has 1 = .ok (.ifCond .lt 15, 3) := by decide +kernel
theorem dX1_has_4 : decode cX1_has 4 = .ok (.iload_n 1, 1) := by decide +kernel
theorem dX1_has_5 : decode cX1_has 5 = .ok (.aload_n 0, 1) := by decide +kernel
theorem dX1_has_6 : decode cX1_has 6 = .ok (.getfield 18, 3) := by decide +kernel
theorem dX1_has_9 : decode cX1_has 9 = .ok (.if_icmp .ge 7, 3) := by decide +kernel
theorem dX1_has_12 : decode cX1_has 12 = .ok (.iconst 1, 1) := by decide +kernel
theorem dX1_has_13 : decode cX1_has 13 = .ok (.goto 4, 3) := by decide +kernel
theorem dX1_has_16 : decode cX1_has 16 = .ok (.iconst 0, 1) := by decide +kernel
theorem dX1_has_17 : decode cX1_has 17 = .ok (.ireturn, 1) := by decide +kernel
theorem dX1_hasTwo_0 : decode cX1_hasTwo 0 = .ok (.aload_n 0, 1) := by decide +kernel
theorem dX1_hasTwo_1 : decode cX1_hasTwo 1 = .ok (.iload_n 1, 1) := by decide +kernel
theorem dX1_hasTwo_2 : decode cX1_hasTwo 2 = .ok (.invokevirtual 58, 3) := by decide +kernel
theorem dX1_hasTwo_5 : decode cX1_hasTwo 5 = .ok (.ifCond .eq 20, 3) := by decide +kernel
theorem dX1_hasTwo_8 : decode cX1_hasTwo 8 = .ok (.aload_n 0, 1) := by decide +kernel
theorem dX1_hasTwo_9 : decode cX1_hasTwo 9 = .ok (.iload_n 2, 1) := by decide +kernel
theorem dX1_hasTwo_10 : decode cX1_hasTwo 10 = .ok (.invokevirtual 58, 3) := by decide +kernel
theorem dX1_hasTwo_13 : decode cX1_hasTwo 13 = .ok (.ifCond .eq 12, 3) := by decide +kernel
theorem dX1_hasTwo_16 : decode cX1_hasTwo 16 = .ok (.iload_n 1, 1) := by decide +kernel
theorem dX1_hasTwo_17 : decode cX1_hasTwo 17 = .ok (.iload_n 2, 1) := by decide +kernel
theorem dX1_hasTwo_18 : decode cX1_hasTwo 18 = .ok (.if_icmp .eq 7, 3) := by decide +kernel
theorem dX1_hasTwo_21 : decode cX1_hasTwo 21 = .ok (.iconst 1, 1) := by decide +kernel
theorem dX1_hasTwo_22 : decode cX1_hasTwo 22 = .ok (.goto 4, 3) := by decide +kernel
theorem dX1_hasTwo_25 : decode cX1_hasTwo 25 = .ok (.iconst 0, 1) := by decide +kernel
theorem dX1_hasTwo_26 : decode cX1_hasTwo 26 = .ok (.ireturn, 1) := by decide +kernel
theorem dX1_hasCell_0 : decode cX1_hasCell 0 = .ok (.iload_n 1, 1) := by decide +kernel
theorem dX1_hasCell_1 : decode cX1_hasCell 1 = .ok (.ifCond .lt 27, 3) := by decide +kernel
theorem dX1_hasCell_4 : decode cX1_hasCell 4 = .ok (.iload_n 1, 1) := by decide +kernel
theorem dX1_hasCell_5 : decode cX1_hasCell 5 = .ok (.aload_n 0, 1) := by decide +kernel
theorem dX1_hasCell_6 : decode cX1_hasCell 6 = .ok (.getfield 9, 3) := by decide +kernel
theorem dX1_hasCell_9 : decode cX1_hasCell 9 = .ok (.if_icmp .ge 19, 3) := by decide +kernel
theorem dX1_hasCell_12 : decode cX1_hasCell 12 = .ok (.iload_n 2, 1) := by decide +kernel
theorem dX1_hasCell_13 : decode cX1_hasCell 13 = .ok (.ifCond .lt 15, 3) := by decide +kernel
theorem dX1_hasCell_16 : decode cX1_hasCell 16 = .ok (.iload_n 2, 1) := by decide +kernel
theorem dX1_hasCell_17 : decode cX1_hasCell 17 = .ok (.aload_n 0, 1) := by decide +kernel
theorem dX1_hasCell_18 : decode cX1_hasCell 18 = .ok (.getfield 15, 3) := by decide +kernel
theorem dX1_hasCell_21 : decode cX1_hasCell 21 = .ok (.if_icmp .ge 7, 3) := by decide +kernel
theorem dX1_hasCell_24 : decode cX1_hasCell 24 = .ok (.iconst 1, 1) := by decide +kernel
theorem dX1_hasCell_25 : decode cX1_hasCell 25 = .ok (.goto 4, 3) := by decide +kernel
theorem dX1_hasCell_28 : decode cX1_hasCell 28 = .ok (.iconst 0, 1) := by decide +kernel
theorem dX1_hasCell_29 : decode cX1_hasCell 29 = .ok (.ireturn, 1) := by decide +kernel
theorem dX1_strokesAt_0 : decode cX1_strokesAt 0 = .ok (.aload_n 0, 1) := by decide +kernel
theorem dX1_strokesAt_1 : decode cX1_strokesAt 1 = .ok (.iload_n 1, 1) := by decide +kernel
theorem dX1_strokesAt_2 : decode cX1_strokesAt 2 = .ok (.iload_n 2, 1) := by decide +kernel
theorem dX1_strokesAt_3 : decode cX1_strokesAt 3 = .ok (.invokevirtual 62, 3) := by decide +kernel
theorem dX1_strokesAt_6 : decode cX1_strokesAt 6 = .ok (.ifCond .eq 17, 3) := by decide +kernel
theorem dX1_strokesAt_9 : decode cX1_strokesAt 9 = .ok (.aload_n 0, 1) := by decide +kernel
theorem dX1_strokesAt_10 : decode cX1_strokesAt 10 = .ok (.getfield 55, 3) := by decide +kernel
theorem dX1_strokesAt_13 : decode cX1_strokesAt 13 = .ok (.iload_n 2, 1) := by decide +kernel
theorem dX1_strokesAt_14 : decode cX1_strokesAt 14 = .ok (.bipush 24, 2) := by decide +kernel
theorem dX1_strokesAt_16 : decode cX1_strokesAt 16 = .ok (.imul, 1) := by decide +kernel
theorem dX1_strokesAt_17 : decode cX1_strokesAt 17 = .ok (.iload_n 1, 1) := by decide +kernel
theorem dX1_strokesAt_18 : decode cX1_strokesAt 18 = .ok (.iadd, 1) := by decide +kernel
theorem dX1_strokesAt_19 : decode cX1_strokesAt 19 = .ok (.iaload, 1) := by decide +kernel
theorem dX1_strokesAt_20 : decode cX1_strokesAt 20 = .ok (.goto 4, 3) := by decide +kernel
theorem dX1_strokesAt_23 : decode cX1_strokesAt 23 = .ok (.iconst 0, 1) := by decide +kernel
theorem dX1_strokesAt_24 : decode cX1_strokesAt 24 = .ok (.ireturn, 1) := by decide +kernel
theorem dX1_hasRoomFor_0 : decode cX1_hasRoomFor 0 = .ok (.aload_n 0, 1) := by decide +kernel
theorem dX1_hasRoomFor_1 : decode cX1_hasRoomFor 1 = .ok (.iload_n 1, 1) := by decide +kernel
theorem dX1_hasRoomFor_2 : decode cX1_hasRoomFor 2 = .ok (.getstatic 66, 3) := by decide +kernel
theorem dX1_hasRoomFor_5 : decode cX1_hasRoomFor 5 = .ok (.iload_n 3, 1) := by decide +kernel
theorem dX1_hasRoomFor_6 : decode cX1_hasRoomFor 6 = .ok (.iaload, 1) := by decide +kernel
theorem dX1_hasRoomFor_7 : decode cX1_hasRoomFor 7 = .ok (.iload 4, 2) := by decide +kernel
theorem dX1_hasRoomFor_9 : decode cX1_hasRoomFor 9 = .ok (.iconst 1, 1) := by decide +kernel
theorem dX1_hasRoomFor_10 : decode cX1_hasRoomFor 10 = .ok (.isub, 1) := by decide +kernel
theorem dX1_hasRoomFor_11 : decode cX1_hasRoomFor 11 = .ok (.imul, 1) := by decide +kernel
theorem dX1_hasRoomFor_12 : decode cX1_hasRoomFor 12 = .ok (.iadd, 1) := by decide +kernel
theorem dX1_hasRoomFor_13 : decode cX1_hasRoomFor 13 = .ok (.iload_n 2, 1) := by decide +kernel
theorem dX1_hasRoomFor_14 : decode cX1_hasRoomFor 14 = .ok (.getstatic 69, 3) := by decide +kernel
theorem dX1_hasRoomFor_17 : decode cX1_hasRoomFor 17 = .ok (.iload_n 3, 1) := by decide +kernel
theorem dX1_hasRoomFor_18 : decode cX1_hasRoomFor 18 = .ok (.iaload, 1) := by decide +kernel
theorem dX1_hasRoomFor_19 : decode cX1_hasRoomFor 19 = .ok (.iload 4, 2) := by decide +kernel
theorem dX1_hasRoomFor_21 : decode cX1_hasRoomFor 21 = .ok (.iconst 1, 1) := by decide +kernel
theorem dX1_hasRoomFor_22 : decode cX1_hasRoomFor 22 = .ok (.isub, 1) := by decide +kernel
theorem dX1_hasRoomFor_23 : decode cX1_hasRoomFor 23 = .ok (.imul, 1) := by decide +kernel
theorem dX1_hasRoomFor_24 : decode cX1_hasRoomFor 24 = .ok (.iadd, 1) := by decide +kernel
theorem dX1_hasRoomFor_25 : decode cX1_hasRoomFor 25 = .ok (.invokevirtual 62, 3) := by decide +kernel
theorem dX1_hasRoomFor_28 : decode cX1_hasRoomFor 28 = .ok (.ireturn, 1) := by decide +kernel
theorem dX1_addStroke_0 : decode cX1_addStroke 0 = .ok (.aload_n 0, 1) := by decide +kernel
theorem dX1_addStroke_1 : decode cX1_addStroke 1 = .ok (.getfield 18, 3) := by decide +kernel
theorem dX1_addStroke_4 : decode cX1_addStroke 4 = .ok (.istore 5, 2) := by decide +kernel
theorem dX1_addStroke_6 : decode cX1_addStroke 6 = .ok (.aload_n 0, 1) := by decide +kernel
theorem dX1_addStroke_7 : decode cX1_addStroke 7 = .ok (.getfield 30, 3) := by decide +kernel
theorem dX1_addStroke_10 : decode cX1_addStroke 10 = .ok (.iload 5, 2) := by decide +kernel
theorem dX1_addStroke_12 : decode cX1_addStroke 12 = .ok (.iload_n 1, 1) := by decide +kernel
theorem dX1_addStroke_13 : decode cX1_addStroke 13 = .ok (.iastore, 1) := by decide +kernel
theorem dX1_addStroke_14 : decode cX1_addStroke 14 = .ok (.aload_n 0, 1) := by decide +kernel
theorem dX1_addStroke_15 : decode cX1_addStroke 15 = .ok (.getfield 34, 3) := by decide +kernel
theorem dX1_addStroke_18 : decode cX1_addStroke 18 = .ok (.iload 5, 2) := by decide +kernel
theorem dX1_addStroke_20 : decode cX1_addStroke 20 = .ok (.iload_n 2, 1) := by decide +kernel
theorem dX1_addStroke_21 : decode cX1_addStroke 21 = .ok (.iastore, 1) := by decide +kernel
theorem dX1_addStroke_22 : decode cX1_addStroke 22 = .ok (.aload_n 0, 1) := by decide +kernel
theorem dX1_addStroke_23 : decode cX1_addStroke 23 = .ok (.getfield 37, 3) := by decide +kernel
theorem dX1_addStroke_26 : decode cX1_addStroke 26 = .ok (.iload 5, 2) := by decide +kernel
theorem dX1_addStroke_28 : decode cX1_addStroke 28 = .ok (.iload_n 3, 1) := by decide +kernel
theorem dX1_addStroke_29 : decode cX1_addStroke 29 = .ok (.iastore, 1) := by decide +kernel
theorem dX1_addStroke_30 : decode cX1_addStroke 30 = .ok (.aload_n 0, 1) := by decide +kernel
theorem dX1_addStroke_31 : decode cX1_addStroke 31 = .ok (.getfield 40, 3) := by decide +kernel
theorem dX1_addStroke_34 : decode cX1_addStroke 34 = .ok (.iload 5, 2) := by decide +kernel
theorem dX1_addStroke_36 : decode cX1_addStroke 36 = .ok (.iload 4, 2) := by decide +kernel
theorem dX1_addStroke_38 : decode cX1_addStroke 38 = .ok (.iastore, 1) := by decide +kernel
theorem dX1_addStroke_39 : decode cX1_addStroke 39 = .ok (.aload_n 0, 1) := by decide +kernel
theorem dX1_addStroke_40 : decode cX1_addStroke 40 = .ok (.getfield 46, 3) := by decide +kernel
theorem dX1_addStroke_43 : decode cX1_addStroke 43 = .ok (.iload 5, 2) := by decide +kernel
theorem dX1_addStroke_45 : decode cX1_addStroke 45 = .ok (.iconst 0, 1) := by decide +kernel
theorem dX1_addStroke_46 : decode cX1_addStroke 46 = .ok (.iastore, 1) := by decide +kernel
theorem dX1_addStroke_47 : decode cX1_addStroke 47 = .ok (.aload_n 0, 1) := by decide +kernel
theorem dX1_addStroke_48 : decode cX1_addStroke 48 = .ok (.getfield 49, 3) := by decide +kernel
theorem dX1_addStroke_51 : decode cX1_addStroke 51 = .ok (.iload 5, 2) := by decide +kernel
theorem dX1_addStroke_53 : decode cX1_addStroke 53 = .ok (.iconst 0, 1) := by decide +kernel
theorem dX1_addStroke_54 : decode cX1_addStroke 54 = .ok (.iastore, 1) := by decide +kernel
theorem dX1_addStroke_55 : decode cX1_addStroke 55 = .ok (.aload_n 0, 1) := by decide +kernel
theorem dX1_addStroke_56 : decode cX1_addStroke 56 = .ok (.getfield 52, 3) := by decide +kernel
theorem dX1_addStroke_59 : decode cX1_addStroke 59 = .ok (.iload 5, 2) := by decide +kernel
theorem dX1_addStroke_61 : decode cX1_addStroke 61 = .ok (.iconst 0, 1) := by decide +kernel
theorem dX1_addStroke_62 : decode cX1_addStroke 62 = .ok (.iastore, 1) := by decide +kernel
theorem dX1_addStroke_63 : decode cX1_addStroke 63 = .ok (.iconst 0, 1) := by decide +kernel
theorem dX1_addStroke_64 : decode cX1_addStroke 64 = .ok (.istore 6, 2) := by decide +kernel
theorem dX1_addStroke_66 : decode cX1_addStroke 66 = .ok (.iconst 0, 1) := by decide +kernel
theorem dX1_addStroke_67 : decode cX1_addStroke 67 = .ok (.istore 7, 2) := by decide +kernel
theorem dX1_addStroke_69 : decode cX1_addStroke 69 = .ok (.iload 7, 2) := by decide +kernel
theorem dX1_addStroke_71 : decode cX1_addStroke 71 = .ok (.iload 4, 2) := by decide +kernel
theorem dX1_addStroke_73 : decode cX1_addStroke 73 = .ok (.if_icmp .ge 61, 3) := by decide +kernel
theorem dX1_addStroke_76 : decode cX1_addStroke 76 = .ok (.iload_n 2, 1) := by decide +kernel
theorem dX1_addStroke_77 : decode cX1_addStroke 77 = .ok (.getstatic 69, 3) := by decide +kernel
theorem dX1_addStroke_80 : decode cX1_addStroke 80 = .ok (.iload_n 3, 1) := by decide +kernel
theorem dX1_addStroke_81 : decode cX1_addStroke 81 = .ok (.iaload, 1) := by decide +kernel
theorem dX1_addStroke_82 : decode cX1_addStroke 82 = .ok (.iload 7, 2) := by decide +kernel
theorem dX1_addStroke_84 : decode cX1_addStroke 84 = .ok (.imul, 1) := by decide +kernel
theorem dX1_addStroke_85 : decode cX1_addStroke 85 = .ok (.iadd, 1) := by decide +kernel
theorem dX1_addStroke_86 : decode cX1_addStroke 86 = .ok (.bipush 24, 2) := by decide +kernel
theorem dX1_addStroke_88 : decode cX1_addStroke 88 = .ok (.imul, 1) := by decide +kernel
theorem dX1_addStroke_89 : decode cX1_addStroke 89 = .ok (.iload_n 1, 1) := by decide +kernel
theorem dX1_addStroke_90 : decode cX1_addStroke 90 = .ok (.iadd, 1) := by decide +kernel
theorem dX1_addStroke_91 : decode cX1_addStroke 91 = .ok (.getstatic 66, 3) := by decide +kernel
theorem dX1_addStroke_94 : decode cX1_addStroke 94 = .ok (.iload_n 3, 1) := by decide +kernel
theorem dX1_addStroke_95 : decode cX1_addStroke 95 = .ok (.iaload, 1) := by decide +kernel
theorem dX1_addStroke_96 : decode cX1_addStroke 96 = .ok (.iload 7, 2) := by decide +kernel
theorem dX1_addStroke_98 : decode cX1_addStroke 98 = .ok (.imul, 1) := by decide +kernel
theorem dX1_addStroke_99 : decode cX1_addStroke 99 = .ok (.iadd, 1) := by decide +kernel
theorem dX1_addStroke_100 : decode cX1_addStroke 100 = .ok (.istore 8, 2) := by decide +kernel
theorem dX1_addStroke_102 : decode cX1_addStroke 102 = .ok (.iload 6, 2) := by decide +kernel
theorem dX1_addStroke_104 : decode cX1_addStroke 104 = .ok (.aload_n 0, 1) := by decide +kernel
theorem dX1_addStroke_105 : decode cX1_addStroke 105 = .ok (.getfield 55, 3) := by decide +kernel
theorem dX1_addStroke_108 : decode cX1_addStroke 108 = .ok (.iload 8, 2) := by decide +kernel
theorem dX1_addStroke_110 : decode cX1_addStroke 110 = .ok (.iaload, 1) := by decide +kernel
theorem dX1_addStroke_111 : decode cX1_addStroke 111 = .ok (.ior, 1) := by decide +kernel
theorem dX1_addStroke_112 : decode cX1_addStroke 112 = .ok (.istore 6, 2) := by decide +kernel
theorem dX1_addStroke_114 : decode cX1_addStroke 114 = .ok (.aload_n 0, 1) := by decide +kernel
theorem dX1_addStroke_115 : decode cX1_addStroke 115 = .ok (.getfield 55, 3) := by decide +kernel
theorem dX1_addStroke_118 : decode cX1_addStroke 118 = .ok (.iload 8, 2) := by decide +kernel
theorem dX1_addStroke_120 : decode cX1_addStroke 120 = .ok (.dup2, 1) := by decide +kernel
theorem dX1_addStroke_121 : decode cX1_addStroke 121 = .ok (.iaload, 1) := by decide +kernel
theorem dX1_addStroke_122 : decode cX1_addStroke 122 = .ok (.iconst 1, 1) := by decide +kernel
theorem dX1_addStroke_123 : decode cX1_addStroke 123 = .ok (.iload 5, 2) := by decide +kernel
theorem dX1_addStroke_125 : decode cX1_addStroke 125 = .ok (.ishl, 1) := by decide +kernel
theorem dX1_addStroke_126 : decode cX1_addStroke 126 = .ok (.ior, 1) := by decide +kernel
theorem dX1_addStroke_127 : decode cX1_addStroke 127 = .ok (.iastore, 1) := by decide +kernel
theorem dX1_addStroke_128 : decode cX1_addStroke 128 = .ok (.iinc 7 1, 3) := by decide +kernel
theorem dX1_addStroke_131 : decode cX1_addStroke 131 = .ok (.goto (-62), 3) := by decide +kernel
theorem dX1_addStroke_134 : decode cX1_addStroke 134 = .ok (.aload_n 0, 1) := by decide +kernel
theorem dX1_addStroke_135 : decode cX1_addStroke 135 = .ok (.getfield 43, 3) := by decide +kernel
theorem dX1_addStroke_138 : decode cX1_addStroke 138 = .ok (.iload 5, 2) := by decide +kernel
theorem dX1_addStroke_140 : decode cX1_addStroke 140 = .ok (.iload 6, 2) := by decide +kernel
theorem dX1_addStroke_142 : decode cX1_addStroke 142 = .ok (.iastore, 1) := by decide +kernel
theorem dX1_addStroke_143 : decode cX1_addStroke 143 = .ok (.iconst 0, 1) := by decide +kernel
theorem dX1_addStroke_144 : decode cX1_addStroke 144 = .ok (.istore 7, 2) := by decide +kernel
theorem dX1_addStroke_146 : decode cX1_addStroke 146 = .ok (.iload 7, 2) := by decide +kernel
theorem dX1_addStroke_148 : decode cX1_addStroke 148 = .ok (.iload 5, 2) := by decide +kernel
theorem dX1_addStroke_150 : decode cX1_addStroke 150 = .ok (.if_icmp .ge 33, 3) := by decide +kernel
theorem dX1_addStroke_153 : decode cX1_addStroke 153 = .ok (.iload 6, 2) := by decide +kernel
theorem dX1_addStroke_155 : decode cX1_addStroke 155 = .ok (.iload 7, 2) := by decide +kernel
theorem dX1_addStroke_157 : decode cX1_addStroke 157 = .ok (.ishr, 1) := by decide +kernel
theorem dX1_addStroke_158 : decode cX1_addStroke 158 = .ok (.iconst 1, 1) := by decide +kernel
theorem dX1_addStroke_159 : decode cX1_addStroke 159 = .ok (.iand, 1) := by decide +kernel
theorem dX1_addStroke_160 : decode cX1_addStroke 160 = .ok (.ifCond .eq 17, 3) := by decide +kernel
theorem dX1_addStroke_163 : decode cX1_addStroke 163 = .ok (.aload_n 0, 1) := by decide +kernel
theorem dX1_addStroke_164 : decode cX1_addStroke 164 = .ok (.getfield 43, 3) := by decide +kernel
theorem dX1_addStroke_167 : decode cX1_addStroke 167 = .ok (.iload 7, 2) := by decide +kernel
theorem dX1_addStroke_169 : decode cX1_addStroke 169 = .ok (.dup2, 1) := by decide +kernel
theorem dX1_addStroke_170 : decode cX1_addStroke 170 = .ok (.iaload, 1) := by decide +kernel
theorem dX1_addStroke_171 : decode cX1_addStroke 171 = .ok (.iconst 1, 1) := by decide +kernel
theorem dX1_addStroke_172 : decode cX1_addStroke 172 = .ok (.iload 5, 2) := by decide +kernel
theorem dX1_addStroke_174 : decode cX1_addStroke 174 = .ok (.ishl, 1) := by decide +kernel
theorem dX1_addStroke_175 : decode cX1_addStroke 175 = .ok (.ior, 1) := by decide +kernel
theorem dX1_addStroke_176 : decode cX1_addStroke 176 = .ok (.iastore, 1) := by decide +kernel
theorem dX1_addStroke_177 : decode cX1_addStroke 177 = .ok (.iinc 7 1, 3) := by decide +kernel
theorem dX1_addStroke_180 : decode cX1_addStroke 180 = .ok (.goto (-34), 3) := by decide +kernel
theorem dX1_addStroke_183 : decode cX1_addStroke 183 = .ok (.aload_n 0, 1) := by decide +kernel
theorem dX1_addStroke_184 : decode cX1_addStroke 184 = .ok (.dup, 1) := by decide +kernel
theorem dX1_addStroke_185 : decode cX1_addStroke 185 = .ok (.getfield 18, 3) := by decide +kernel
theorem dX1_addStroke_188 : decode cX1_addStroke 188 = .ok (.iconst 1, 1) := by decide +kernel
theorem dX1_addStroke_189 : decode cX1_addStroke 189 = .ok (.iadd, 1) := by decide +kernel
theorem dX1_addStroke_190 : decode cX1_addStroke 190 = .ok (.putfield 18, 3) := by decide +kernel
theorem dX1_addStroke_193 : decode cX1_addStroke 193 = .ok (.return_, 1) := by decide +kernel
theorem dX1_firstCommonCell_0 : decode cX1_firstCommonCell 0 = .ok (.iconst 0, 1) := by decide +kernel
theorem dX1_firstCommonCell_1 : decode cX1_firstCommonCell 1 = .ok (.istore_n 3, 1) := by decide +kernel
theorem dX1_firstCommonCell_2 : decode cX1_firstCommonCell 2 = .ok (.iload_n 3, 1) := by decide +kernel
theorem dX1_firstCommonCell_3 : decode cX1_firstCommonCell 3 = .ok (.aload_n 0, 1) := by decide +kernel
theorem dX1_firstCommonCell_4 : decode cX1_firstCommonCell 4 = .ok (.getfield 40, 3) := by decide +kernel
theorem dX1_firstCommonCell_7 : decode cX1_firstCommonCell 7 = .ok (.iload_n 1, 1) := by decide +kernel
theorem dX1_firstCommonCell_8 : decode cX1_firstCommonCell 8 = .ok (.iaload, 1) := by decide +kernel
theorem dX1_firstCommonCell_9 : decode cX1_firstCommonCell 9 = .ok (.if_icmp .ge 75, 3) := by decide +kernel
theorem dX1_firstCommonCell_12 : decode cX1_firstCommonCell 12 = .ok (.aload_n 0, 1) := by decide +kernel
theorem dX1_firstCommonCell_13 : decode cX1_firstCommonCell 13 = .ok (.getfield 30, 3) := by decide +kernel
theorem dX1_firstCommonCell_16 : decode cX1_firstCommonCell 16 = .ok (.iload_n 1, 1) := by decide +kernel
theorem dX1_firstCommonCell_17 : decode cX1_firstCommonCell 17 = .ok (.iaload, 1) := by decide +kernel
theorem dX1_firstCommonCell_18 : decode cX1_firstCommonCell 18 = .ok (.getstatic 66, 3) := by decide +kernel
theorem dX1_firstCommonCell_21 : decode cX1_firstCommonCell 21 = .ok (.aload_n 0, 1) := by decide +kernel
theorem dX1_firstCommonCell_22 : decode cX1_firstCommonCell 22 = .ok (.getfield 37, 3) := by decide +kernel
theorem dX1_firstCommonCell_25 : decode cX1_firstCommonCell 25 = .ok (.iload_n 1, 1) := by decide +kernel
theorem dX1_firstCommonCell_26 : decode cX1_firstCommonCell 26 = .ok (.iaload, 1) := by decide +kernel
theorem dX1_firstCommonCell_27 : decode cX1_firstCommonCell 27 = .ok (.iaload, 1) := by decide +kernel
theorem dX1_firstCommonCell_28 : decode cX1_firstCommonCell 28 = .ok (.iload_n 3, 1) := by decide +kernel
theorem dX1_firstCommonCell_29 : decode cX1_firstCommonCell 29 = .ok (.imul, 1) := by decide +kernel
theorem dX1_firstCommonCell_30 : decode cX1_firstCommonCell 30 = .ok (.iadd, 1) := by decide +kernel
theorem dX1_firstCommonCell_31 : decode cX1_firstCommonCell 31 = .ok (.istore 4, 2) := by decide +kernel
theorem dX1_firstCommonCell_33 : decode cX1_firstCommonCell 33 = .ok (.aload_n 0, 1) := by decide +kernel
theorem dX1_firstCommonCell_34 : decode cX1_firstCommonCell 34 = .ok (.getfield 34, 3) := by decide +kernel
theorem dX1_firstCommonCell_37 : decode cX1_firstCommonCell 37 = .ok (.iload_n 1, 1) := by decide +kernel
theorem dX1_firstCommonCell_38 : decode cX1_firstCommonCell 38 = .ok (.iaload, 1) := by decide +kernel
theorem dX1_firstCommonCell_39 : decode cX1_firstCommonCell 39 = .ok (.getstatic 69, 3) := by decide +kernel
theorem dX1_firstCommonCell_42 : decode cX1_firstCommonCell 42 = .ok (.aload_n 0, 1) := by decide +kernel
theorem dX1_firstCommonCell_43 : decode cX1_firstCommonCell 43 = .ok (.getfield 37, 3) := by decide +kernel
theorem dX1_firstCommonCell_46 : decode cX1_firstCommonCell 46 = .ok (.iload_n 1, 1) := by decide +kernel
theorem dX1_firstCommonCell_47 : decode cX1_firstCommonCell 47 = .ok (.iaload, 1) := by decide +kernel
theorem dX1_firstCommonCell_48 : decode cX1_firstCommonCell 48 = .ok (.iaload, 1) := by decide +kernel
theorem dX1_firstCommonCell_49 : decode cX1_firstCommonCell 49 = .ok (.iload_n 3, 1) := by decide +kernel
theorem dX1_firstCommonCell_50 : decode cX1_firstCommonCell 50 = .ok (.imul, 1) := by decide +kernel
theorem dX1_firstCommonCell_51 : decode cX1_firstCommonCell 51 = .ok (.iadd, 1) := by decide +kernel
theorem dX1_firstCommonCell_52 : decode cX1_firstCommonCell 52 = .ok (.istore 5, 2) := by decide +kernel
theorem dX1_firstCommonCell_54 : decode cX1_firstCommonCell 54 = .ok (.aload_n 0, 1) := by decide +kernel
theorem dX1_firstCommonCell_55 : decode cX1_firstCommonCell 55 = .ok (.iload 4, 2) := by decide +kernel
theorem dX1_firstCommonCell_57 : decode cX1_firstCommonCell 57 = .ok (.iload 5, 2) := by decide +kernel
theorem dX1_firstCommonCell_59 : decode cX1_firstCommonCell 59 = .ok (.invokevirtual 72, 3) := by decide +kernel
theorem dX1_firstCommonCell_62 : decode cX1_firstCommonCell 62 = .ok (.iload_n 2, 1) := by decide +kernel
theorem dX1_firstCommonCell_63 : decode cX1_firstCommonCell 63 = .ok (.ishr, 1) := by decide +kernel
theorem dX1_firstCommonCell_64 : decode cX1_firstCommonCell 64 = .ok (.iconst 1, 1) := by decide +kernel
theorem dX1_firstCommonCell_65 : decode cX1_firstCommonCell 65 = .ok (.iand, 1) := by decide +kernel
theorem dX1_firstCommonCell_66 : decode cX1_firstCommonCell 66 = .ok (.ifCond .eq 12, 3) := by decide +kernel
theorem dX1_firstCommonCell_69 : decode cX1_firstCommonCell 69 = .ok (.bipush 100, 2) := by decide +kernel
theorem dX1_firstCommonCell_71 : decode cX1_firstCommonCell 71 = .ok (.iload 5, 2) := by decide +kernel
theorem dX1_firstCommonCell_73 : decode cX1_firstCommonCell 73 = .ok (.imul, 1) := by decide +kernel
theorem dX1_firstCommonCell_74 : decode cX1_firstCommonCell 74 = .ok (.iload 4, 2) := by decide +kernel
theorem dX1_firstCommonCell_76 : decode cX1_firstCommonCell 76 = .ok (.iadd, 1) := by decide +kernel
theorem dX1_firstCommonCell_77 : decode cX1_firstCommonCell 77 = .ok (.ireturn, 1) := by decide +kernel
theorem dX1_firstCommonCell_78 : decode cX1_firstCommonCell 78 = .ok (.iinc 3 1, 3) := by decide +kernel
theorem dX1_firstCommonCell_81 : decode cX1_firstCommonCell 81 = .ok (.goto (-79), 3) := by decide +kernel
theorem dX1_firstCommonCell_84 : decode cX1_firstCommonCell 84 = .ok (.iconst (-1), 1) := by decide +kernel
theorem dX1_firstCommonCell_85 : decode cX1_firstCommonCell 85 = .ok (.ireturn, 1) := by decide +kernel
theorem dX1_countCrossings_0 : decode cX1_countCrossings 0 = .ok (.iconst 0, 1) := by decide +kernel
theorem dX1_countCrossings_1 : decode cX1_countCrossings 1 = .ok (.istore_n 1, 1) := by decide +kernel
theorem dX1_countCrossings_2 : decode cX1_countCrossings 2 = .ok (.iconst 0, 1) := by decide +kernel
theorem dX1_countCrossings_3 : decode cX1_countCrossings 3 = .ok (.istore_n 2, 1) := by decide +kernel
theorem dX1_countCrossings_4 : decode cX1_countCrossings 4 = .ok (.iload_n 2, 1) := by decide +kernel
theorem dX1_countCrossings_5 : decode cX1_countCrossings 5 = .ok (.aload_n 0, 1) := by decide +kernel
theorem dX1_countCrossings_6 : decode cX1_countCrossings 6 = .ok (.getfield 18, 3) := by decide +kernel
theorem dX1_countCrossings_9 : decode cX1_countCrossings 9 = .ok (.if_icmp .ge 21, 3) := by decide +kernel
theorem dX1_countCrossings_12 : decode cX1_countCrossings 12 = .ok (.iload_n 1, 1) := by decide +kernel
theorem dX1_countCrossings_13 : decode cX1_countCrossings 13 = .ok (.aload_n 0, 1) := by decide +kernel
theorem dX1_countCrossings_14 : decode cX1_countCrossings 14 = .ok (.getfield 43, 3) := by decide +kernel
theorem dX1_countCrossings_17 : decode cX1_countCrossings 17 = .ok (.iload_n 2, 1) := by decide +kernel
theorem dX1_countCrossings_18 : decode cX1_countCrossings 18 = .ok (.iaload, 1) := by decide +kernel
theorem dX1_countCrossings_19 : decode cX1_countCrossings 19 = .ok (.invokestatic 76, 3) := by decide +kernel
theorem dX1_countCrossings_22 : decode cX1_countCrossings 22 = .ok (.iadd, 1) := by decide +kernel
theorem dX1_countCrossings_23 : decode cX1_countCrossings 23 = .ok (.istore_n 1, 1) := by decide +kernel
theorem dX1_countCrossings_24 : decode cX1_countCrossings 24 = .ok (.iinc 2 1, 3) := by decide +kernel
theorem dX1_countCrossings_27 : decode cX1_countCrossings 27 = .ok (.goto (-23), 3) := by decide +kernel
theorem dX1_countCrossings_30 : decode cX1_countCrossings 30 = .ok (.iload_n 1, 1) := by decide +kernel
theorem dX1_countCrossings_31 : decode cX1_countCrossings 31 = .ok (.iconst 2, 1) := by decide +kernel
theorem dX1_countCrossings_32 : decode cX1_countCrossings 32 = .ok (.idiv, 1) := by decide +kernel
theorem dX1_countCrossings_33 : decode cX1_countCrossings 33 = .ok (.ireturn, 1) := by decide +kernel
theorem dX1_isCrossing_0 : decode cX1_isCrossing 0 = .ok (.aload_n 0, 1) := by decide +kernel
theorem dX1_isCrossing_1 : decode cX1_isCrossing 1 = .ok (.getfield 43, 3) := by decide +kernel
theorem dX1_isCrossing_4 : decode cX1_isCrossing 4 = .ok (.iload_n 1, 1) := by decide +kernel
theorem dX1_isCrossing_5 : decode cX1_isCrossing 5 = .ok (.iaload, 1) := by decide +kernel
theorem dX1_isCrossing_6 : decode cX1_isCrossing 6 = .ok (.iload_n 2, 1) := by decide +kernel
theorem dX1_isCrossing_7 : decode cX1_isCrossing 7 = .ok (.ishr, 1) := by decide +kernel
theorem dX1_isCrossing_8 : decode cX1_isCrossing 8 = .ok (.iconst 1, 1) := by decide +kernel
theorem dX1_isCrossing_9 : decode cX1_isCrossing 9 = .ok (.iand, 1) := by decide +kernel
theorem dX1_isCrossing_10 : decode cX1_isCrossing 10 = .ok (.ifCond .eq 7, 3) := by decide +kernel
theorem dX1_isCrossing_13 : decode cX1_isCrossing 13 = .ok (.iconst 1, 1) := by decide +kernel
theorem dX1_isCrossing_14 : decode cX1_isCrossing 14 = .ok (.goto 4, 3) := by decide +kernel
theorem dX1_isCrossing_17 : decode cX1_isCrossing 17 = .ok (.iconst 0, 1) := by decide +kernel
theorem dX1_isCrossing_18 : decode cX1_isCrossing 18 = .ok (.ireturn, 1) := by decide +kernel
theorem dX1_isTold_0 : decode cX1_isTold 0 = .ok (.aload_n 0, 1) := by decide +kernel
theorem dX1_isTold_1 : decode cX1_isTold 1 = .ok (.getfield 46, 3) := by decide +kernel
theorem dX1_isTold_4 : decode cX1_isTold 4 = .ok (.iload_n 1, 1) := by decide +kernel
theorem dX1_isTold_5 : decode cX1_isTold 5 = .ok (.iaload, 1) := by decide +kernel
theorem dX1_isTold_6 : decode cX1_isTold 6 = .ok (.iload_n 2, 1) := by decide +kernel
theorem dX1_isTold_7 : decode cX1_isTold 7 = .ok (.ishr, 1) := by decide +kernel
theorem dX1_isTold_8 : decode cX1_isTold 8 = .ok (.iconst 1, 1) := by decide +kernel
theorem dX1_isTold_9 : decode cX1_isTold 9 = .ok (.iand, 1) := by decide +kernel
theorem dX1_isTold_10 : decode cX1_isTold 10 = .ok (.ifCond .eq 7, 3) := by decide +kernel
theorem dX1_isTold_13 : decode cX1_isTold 13 = .ok (.iconst 1, 1) := by decide +kernel
theorem dX1_isTold_14 : decode cX1_isTold 14 = .ok (.goto 4, 3) := by decide +kernel
theorem dX1_isTold_17 : decode cX1_isTold 17 = .ok (.iconst 0, 1) := by decide +kernel
theorem dX1_isTold_18 : decode cX1_isTold 18 = .ok (.ireturn, 1) := by decide +kernel
theorem dX1_isOver_0 : decode cX1_isOver 0 = .ok (.aload_n 0, 1) := by decide +kernel
theorem dX1_isOver_1 : decode cX1_isOver 1 = .ok (.getfield 49, 3) := by decide +kernel
theorem dX1_isOver_4 : decode cX1_isOver 4 = .ok (.iload_n 1, 1) := by decide +kernel
theorem dX1_isOver_5 : decode cX1_isOver 5 = .ok (.iaload, 1) := by decide +kernel
theorem dX1_isOver_6 : decode cX1_isOver 6 = .ok (.iload_n 2, 1) := by decide +kernel
theorem dX1_isOver_7 : decode cX1_isOver 7 = .ok (.ishr, 1) := by decide +kernel
theorem dX1_isOver_8 : decode cX1_isOver 8 = .ok (.iconst 1, 1) := by decide +kernel
theorem dX1_isOver_9 : decode cX1_isOver 9 = .ok (.iand, 1) := by decide +kernel
theorem dX1_isOver_10 : decode cX1_isOver 10 = .ok (.ifCond .eq 7, 3) := by decide +kernel
theorem dX1_isOver_13 : decode cX1_isOver 13 = .ok (.iconst 1, 1) := by decide +kernel
theorem dX1_isOver_14 : decode cX1_isOver 14 = .ok (.goto 4, 3) := by decide +kernel
theorem dX1_isOver_17 : decode cX1_isOver 17 = .ok (.iconst 0, 1) := by decide +kernel
theorem dX1_isOver_18 : decode cX1_isOver 18 = .ok (.ireturn, 1) := by decide +kernel
theorem dX1_canBeTold_0 : decode cX1_canBeTold 0 = .ok (.iload_n 1, 1) := by decide +kernel
theorem dX1_canBeTold_1 : decode cX1_canBeTold 1 = .ok (.iload_n 2, 1) := by decide +kernel
theorem dX1_canBeTold_2 : decode cX1_canBeTold 2 = .ok (.if_icmp .eq 25, 3) := by decide +kernel
theorem dX1_canBeTold_5 : decode cX1_canBeTold 5 = .ok (.aload_n 0, 1) := by decide +kernel
theorem dX1_canBeTold_6 : decode cX1_canBeTold 6 = .ok (.iload_n 1, 1) := by decide +kernel
theorem dX1_canBeTold_7 : decode cX1_canBeTold 7 = .ok (.iload_n 2, 1) := by decide +kernel
theorem dX1_canBeTold_8 : decode cX1_canBeTold 8 = .ok (.invokevirtual 82, 3) := by decide +kernel
theorem dX1_canBeTold_11 : decode cX1_canBeTold 11 = .ok (.ifCond .eq 16, 3) := by decide +kernel
theorem dX1_canBeTold_14 : decode cX1_canBeTold 14 = .ok (.aload_n 0, 1) := by decide +kernel
theorem dX1_canBeTold_15 : decode cX1_canBeTold 15 = .ok (.iload_n 1, 1) := by decide +kernel
theorem dX1_canBeTold_16 : decode cX1_canBeTold 16 = .ok (.iload_n 2, 1) := by decide +kernel
theorem dX1_canBeTold_17 : decode cX1_canBeTold 17 = .ok (.invokevirtual 85, 3) := by decide +kernel
theorem dX1_canBeTold_20 : decode cX1_canBeTold 20 = .ok (.ifCond .ne 7, 3) := by decide +kernel
theorem dX1_canBeTold_23 : decode cX1_canBeTold 23 = .ok (.iconst 1, 1) := by decide +kernel
theorem dX1_canBeTold_24 : decode cX1_canBeTold 24 = .ok (.goto 4, 3) := by decide +kernel
theorem dX1_canBeTold_27 : decode cX1_canBeTold 27 = .ok (.iconst 0, 1) := by decide +kernel
theorem dX1_canBeTold_28 : decode cX1_canBeTold 28 = .ok (.ireturn, 1) := by decide +kernel
theorem dX1_linkLeavesNoWay_0 : decode cX1_linkLeavesNoWay 0 = .ok (.aload_n 0, 1) := by decide +kernel
theorem dX1_linkLeavesNoWay_1 : decode cX1_linkLeavesNoWay 1 = .ok (.getfield 24, 3) := by decide +kernel
theorem dX1_linkLeavesNoWay_4 : decode cX1_linkLeavesNoWay 4 = .ok (.aload_n 0, 1) := by decide +kernel
theorem dX1_linkLeavesNoWay_5 : decode cX1_linkLeavesNoWay 5 = .ok (.getfield 52, 3) := by decide +kernel
theorem dX1_linkLeavesNoWay_8 : decode cX1_linkLeavesNoWay 8 = .ok (.iload_n 1, 1) := by decide +kernel
theorem dX1_linkLeavesNoWay_9 : decode cX1_linkLeavesNoWay 9 = .ok (.iaload, 1) := by decide +kernel
theorem dX1_linkLeavesNoWay_10 : decode cX1_linkLeavesNoWay 10 = .ok (.iconst 1, 1) := by decide +kernel
theorem dX1_linkLeavesNoWay_11 : decode cX1_linkLeavesNoWay 11 = .ok (.iload_n 1, 1) := by decide +kernel
theorem dX1_linkLeavesNoWay_12 : decode cX1_linkLeavesNoWay 12 = .ok (.ishl, 1) := by decide +kernel
theorem dX1_linkLeavesNoWay_13 : decode cX1_linkLeavesNoWay 13 = .ok (.ior, 1) := by decide +kernel
theorem dX1_linkLeavesNoWay_14 : decode cX1_linkLeavesNoWay 14 = .ok (.iand, 1) := by decide +kernel
theorem dX1_linkLeavesNoWay_15 : decode cX1_linkLeavesNoWay 15 = .ok (.ifCond .eq 25, 3) := by decide +kernel
theorem dX1_linkLeavesNoWay_18 : decode cX1_linkLeavesNoWay 18 = .ok (.aload_n 0, 1) := by decide +kernel
theorem dX1_linkLeavesNoWay_19 : decode cX1_linkLeavesNoWay 19 = .ok (.getfield 27, 3) := by decide +kernel
theorem dX1_linkLeavesNoWay_22 : decode cX1_linkLeavesNoWay 22 = .ok (.aload_n 0, 1) := by decide +kernel
theorem dX1_linkLeavesNoWay_23 : decode cX1_linkLeavesNoWay 23 = .ok (.getfield 49, 3) := by decide +kernel
theorem dX1_linkLeavesNoWay_26 : decode cX1_linkLeavesNoWay 26 = .ok (.iload_n 2, 1) := by decide +kernel
theorem dX1_linkLeavesNoWay_27 : decode cX1_linkLeavesNoWay 27 = .ok (.iaload, 1) := by decide +kernel
theorem dX1_linkLeavesNoWay_28 : decode cX1_linkLeavesNoWay 28 = .ok (.iconst 1, 1) := by decide +kernel
theorem dX1_linkLeavesNoWay_29 : decode cX1_linkLeavesNoWay 29 = .ok (.iload_n 2, 1) := by decide +kernel
theorem dX1_linkLeavesNoWay_30 : decode cX1_linkLeavesNoWay 30 = .ok (.ishl, 1) := by decide +kernel
theorem dX1_linkLeavesNoWay_31 : decode cX1_linkLeavesNoWay 31 = .ok (.ior, 1) := by decide +kernel
theorem dX1_linkLeavesNoWay_32 : decode cX1_linkLeavesNoWay 32 = .ok (.iand, 1) := by decide +kernel
theorem dX1_linkLeavesNoWay_33 : decode cX1_linkLeavesNoWay 33 = .ok (.ifCond .eq 7, 3) := by decide +kernel
theorem dX1_linkLeavesNoWay_36 : decode cX1_linkLeavesNoWay 36 = .ok (.iconst 1, 1) := by decide +kernel
theorem dX1_linkLeavesNoWay_37 : decode cX1_linkLeavesNoWay 37 = .ok (.goto 4, 3) := by decide +kernel
theorem dX1_linkLeavesNoWay_40 : decode cX1_linkLeavesNoWay 40 = .ok (.iconst 0, 1) := by decide +kernel
theorem dX1_linkLeavesNoWay_41 : decode cX1_linkLeavesNoWay 41 = .ok (.ireturn, 1) := by decide +kernel
theorem dX1_link_0 : decode cX1_link 0 = .ok (.aload_n 0, 1) := by decide +kernel
theorem dX1_link_1 : decode cX1_link 1 = .ok (.getfield 46, 3) := by decide +kernel
theorem dX1_link_4 : decode cX1_link 4 = .ok (.iload_n 1, 1) := by decide +kernel
theorem dX1_link_5 : decode cX1_link 5 = .ok (.dup2, 1) := by decide +kernel
theorem dX1_link_6 : decode cX1_link 6 = .ok (.iaload, 1) := by decide +kernel
theorem dX1_link_7 : decode cX1_link 7 = .ok (.iconst 1, 1) := by decide +kernel
theorem dX1_link_8 : decode cX1_link 8 = .ok (.iload_n 2, 1) := by decide +kernel
theorem dX1_link_9 : decode cX1_link 9 = .ok (.ishl, 1) := by decide +kernel
theorem dX1_link_10 : decode cX1_link 10 = .ok (.ior, 1) := by decide +kernel
theorem dX1_link_11 : decode cX1_link 11 = .ok (.iastore, 1) := by decide +kernel
theorem dX1_link_12 : decode cX1_link 12 = .ok (.aload_n 0, 1) := by decide +kernel
theorem dX1_link_13 : decode cX1_link 13 = .ok (.dup, 1) := by decide +kernel
theorem dX1_link_14 : decode cX1_link 14 = .ok (.getfield 21, 3) := by decide +kernel
theorem dX1_link_17 : decode cX1_link 17 = .ok (.iconst 1, 1) := by decide +kernel
theorem dX1_link_18 : decode cX1_link 18 = .ok (.iadd, 1) := by decide +kernel
theorem dX1_link_19 : decode cX1_link 19 = .ok (.putfield 21, 3) := by decide +kernel
theorem dX1_link_22 : decode cX1_link 22 = .ok (.aload_n 0, 1) := by decide +kernel
theorem dX1_link_23 : decode cX1_link 23 = .ok (.iload_n 1, 1) := by decide +kernel
theorem dX1_link_24 : decode cX1_link 24 = .ok (.iload_n 2, 1) := by decide +kernel
theorem dX1_link_25 : decode cX1_link 25 = .ok (.invokevirtual 88, 3) := by decide +kernel
theorem dX1_link_28 : decode cX1_link 28 = .ok (.return_, 1) := by decide +kernel
theorem dX1_unlink_0 : decode cX1_unlink 0 = .ok (.aload_n 0, 1) := by decide +kernel
theorem dX1_unlink_1 : decode cX1_unlink 1 = .ok (.getfield 46, 3) := by decide +kernel
theorem dX1_unlink_4 : decode cX1_unlink 4 = .ok (.iload_n 1, 1) := by decide +kernel
theorem dX1_unlink_5 : decode cX1_unlink 5 = .ok (.dup2, 1) := by decide +kernel
theorem dX1_unlink_6 : decode cX1_unlink 6 = .ok (.iaload, 1) := by decide +kernel
theorem dX1_unlink_7 : decode cX1_unlink 7 = .ok (.iconst 1, 1) := by decide +kernel
theorem dX1_unlink_8 : decode cX1_unlink 8 = .ok (.iload_n 2, 1) := by decide +kernel
theorem dX1_unlink_9 : decode cX1_unlink 9 = .ok (.ishl, 1) := by decide +kernel
theorem dX1_unlink_10 : decode cX1_unlink 10 = .ok (.iconst (-1), 1) := by decide +kernel
theorem dX1_unlink_11 : decode cX1_unlink 11 = .ok (.ixor, 1) := by decide +kernel
theorem dX1_unlink_12 : decode cX1_unlink 12 = .ok (.iand, 1) := by decide +kernel
theorem dX1_unlink_13 : decode cX1_unlink 13 = .ok (.iastore, 1) := by decide +kernel
theorem dX1_unlink_14 : decode cX1_unlink 14 = .ok (.aload_n 0, 1) := by decide +kernel
theorem dX1_unlink_15 : decode cX1_unlink 15 = .ok (.dup, 1) := by decide +kernel
theorem dX1_unlink_16 : decode cX1_unlink 16 = .ok (.getfield 21, 3) := by decide +kernel
theorem dX1_unlink_19 : decode cX1_unlink 19 = .ok (.iconst 1, 1) := by decide +kernel
theorem dX1_unlink_20 : decode cX1_unlink 20 = .ok (.isub, 1) := by decide +kernel
theorem dX1_unlink_21 : decode cX1_unlink 21 = .ok (.putfield 21, 3) := by decide +kernel
theorem dX1_unlink_24 : decode cX1_unlink 24 = .ok (.iconst 0, 1) := by decide +kernel
theorem dX1_unlink_25 : decode cX1_unlink 25 = .ok (.istore_n 3, 1) := by decide +kernel
theorem dX1_unlink_26 : decode cX1_unlink 26 = .ok (.iload_n 3, 1) := by decide +kernel
theorem dX1_unlink_27 : decode cX1_unlink 27 = .ok (.aload_n 0, 1) := by decide +kernel
theorem dX1_unlink_28 : decode cX1_unlink 28 = .ok (.getfield 18, 3) := by decide +kernel
theorem dX1_unlink_31 : decode cX1_unlink 31 = .ok (.if_icmp .ge 23, 3) := by decide +kernel
theorem dX1_unlink_34 : decode cX1_unlink 34 = .ok (.aload_n 0, 1) := by decide +kernel
theorem dX1_unlink_35 : decode cX1_unlink 35 = .ok (.getfield 49, 3) := by decide +kernel
theorem dX1_unlink_38 : decode cX1_unlink 38 = .ok (.iload_n 3, 1) := by decide +kernel
theorem dX1_unlink_39 : decode cX1_unlink 39 = .ok (.iconst 0, 1) := by decide +kernel
theorem dX1_unlink_40 : decode cX1_unlink 40 = .ok (.iastore, 1) := by decide +kernel
theorem dX1_unlink_41 : decode cX1_unlink 41 = .ok (.aload_n 0, 1) := by decide +kernel
theorem dX1_unlink_42 : decode cX1_unlink 42 = .ok (.getfield 52, 3) := by decide +kernel
theorem dX1_unlink_45 : decode cX1_unlink 45 = .ok (.iload_n 3, 1) := by decide +kernel
theorem dX1_unlink_46 : decode cX1_unlink 46 = .ok (.iconst 0, 1) := by decide +kernel
theorem dX1_unlink_47 : decode cX1_unlink 47 = .ok (.iastore, 1) := by decide +kernel
theorem dX1_unlink_48 : decode cX1_unlink 48 = .ok (.iinc 3 1, 3) := by decide +kernel
theorem dX1_unlink_51 : decode cX1_unlink 51 = .ok (.goto (-25), 3) := by decide +kernel
theorem dX1_unlink_54 : decode cX1_unlink 54 = .ok (.iconst 0, 1) := by decide +kernel
theorem dX1_unlink_55 : decode cX1_unlink 55 = .ok (.istore_n 3, 1) := by decide +kernel
theorem dX1_unlink_56 : decode cX1_unlink 56 = .ok (.iload_n 3, 1) := by decide +kernel
theorem dX1_unlink_57 : decode cX1_unlink 57 = .ok (.aload_n 0, 1) := by decide +kernel
theorem dX1_unlink_58 : decode cX1_unlink 58 = .ok (.getfield 18, 3) := by decide +kernel
theorem dX1_unlink_61 : decode cX1_unlink 61 = .ok (.if_icmp .ge 44, 3) := by decide +kernel
theorem dX1_unlink_64 : decode cX1_unlink 64 = .ok (.iconst 0, 1) := by decide +kernel
theorem dX1_unlink_65 : decode cX1_unlink 65 = .ok (.istore 4, 2) := by decide +kernel
theorem dX1_unlink_67 : decode cX1_unlink 67 = .ok (.iload 4, 2) := by decide +kernel
theorem dX1_unlink_69 : decode cX1_unlink 69 = .ok (.aload_n 0, 1) := by decide +kernel
theorem dX1_unlink_70 : decode cX1_unlink 70 = .ok (.getfield 18, 3) := by decide +kernel
theorem dX1_unlink_73 : decode cX1_unlink 73 = .ok (.if_icmp .ge 26, 3) := by decide +kernel
theorem dX1_unlink_76 : decode cX1_unlink 76 = .ok (.aload_n 0, 1) := by decide +kernel
theorem dX1_unlink_77 : decode cX1_unlink 77 = .ok (.iload_n 3, 1) := by decide +kernel
theorem dX1_unlink_78 : decode cX1_unlink 78 = .ok (.iload 4, 2) := by decide +kernel
theorem dX1_unlink_80 : decode cX1_unlink 80 = .ok (.invokevirtual 85, 3) := by decide +kernel
theorem dX1_unlink_83 : decode cX1_unlink 83 = .ok (.ifCond .eq 10, 3) := by decide +kernel
theorem dX1_unlink_86 : decode cX1_unlink 86 = .ok (.aload_n 0, 1) := by decide +kernel
theorem dX1_unlink_87 : decode cX1_unlink 87 = .ok (.iload_n 3, 1) := by decide +kernel
theorem dX1_unlink_88 : decode cX1_unlink 88 = .ok (.iload 4, 2) := by decide +kernel
theorem dX1_unlink_90 : decode cX1_unlink 90 = .ok (.invokevirtual 88, 3) := by decide +kernel
theorem dX1_unlink_93 : decode cX1_unlink 93 = .ok (.iinc 4 1, 3) := by decide +kernel
theorem dX1_unlink_96 : decode cX1_unlink 96 = .ok (.goto (-29), 3) := by decide +kernel
theorem dX1_unlink_99 : decode cX1_unlink 99 = .ok (.iinc 3 1, 3) := by decide +kernel
theorem dX1_unlink_102 : decode cX1_unlink 102 = .ok (.goto (-46), 3) := by decide +kernel
theorem dX1_unlink_105 : decode cX1_unlink 105 = .ok (.return_, 1) := by decide +kernel
theorem dX1_addChains_0 : decode cX1_addChains 0 = .ok (.aload_n 0, 1) := by decide +kernel
theorem dX1_addChains_1 : decode cX1_addChains 1 = .ok (.getfield 49, 3) := by decide +kernel
theorem dX1_addChains_4 : decode cX1_addChains 4 = .ok (.iload_n 2, 1) := by decide +kernel
theorem dX1_addChains_5 : decode cX1_addChains 5 = .ok (.iaload, 1) := by decide +kernel
theorem dX1_addChains_6 : decode cX1_addChains 6 = .ok (.iconst 1, 1) := by decide +kernel
theorem dX1_addChains_7 : decode cX1_addChains 7 = .ok (.iload_n 2, 1) := by decide +kernel
theorem dX1_addChains_8 : decode cX1_addChains 8 = .ok (.ishl, 1) := by decide +kernel
theorem dX1_addChains_9 : decode cX1_addChains 9 = .ok (.ior, 1) := by decide +kernel
theorem dX1_addChains_10 : decode cX1_addChains 10 = .ok (.istore_n 3, 1) := by decide +kernel
theorem dX1_addChains_11 : decode cX1_addChains 11 = .ok (.aload_n 0, 1) := by decide +kernel
theorem dX1_addChains_12 : decode cX1_addChains 12 = .ok (.getfield 52, 3) := by decide +kernel
theorem dX1_addChains_15 : decode cX1_addChains 15 = .ok (.iload_n 1, 1) := by decide +kernel
theorem dX1_addChains_16 : decode cX1_addChains 16 = .ok (.iaload, 1) := by decide +kernel
theorem dX1_addChains_17 : decode cX1_addChains 17 = .ok (.iconst 1, 1) := by decide +kernel
theorem dX1_addChains_18 : decode cX1_addChains 18 = .ok (.iload_n 1, 1) := by decide +kernel
theorem dX1_addChains_19 : decode cX1_addChains 19 = .ok (.ishl, 1) := by decide +kernel
theorem dX1_addChains_20 : decode cX1_addChains 20 = .ok (.ior, 1) := by decide +kernel
theorem dX1_addChains_21 : decode cX1_addChains 21 = .ok (.istore 4, 2) := by decide +kernel
theorem dX1_addChains_23 : decode cX1_addChains 23 = .ok (.iconst 0, 1) := by decide +kernel
theorem dX1_addChains_24 : decode cX1_addChains 24 = .ok (.istore 5, 2) := by decide +kernel
theorem dX1_addChains_26 : decode cX1_addChains 26 = .ok (.iload 5, 2) := by decide +kernel
theorem dX1_addChains_28 : decode cX1_addChains 28 = .ok (.aload_n 0, 1) := by decide +kernel
theorem dX1_addChains_29 : decode cX1_addChains 29 = .ok (.getfield 18, 3) := by decide +kernel
theorem dX1_addChains_32 : decode cX1_addChains 32 = .ok (.if_icmp .ge 51, 3) := by decide +kernel
theorem dX1_addChains_35 : decode cX1_addChains 35 = .ok (.iload 4, 2) := by decide +kernel
theorem dX1_addChains_37 : decode cX1_addChains 37 = .ok (.iload 5, 2) := by decide +kernel
theorem dX1_addChains_39 : decode cX1_addChains 39 = .ok (.ishr, 1) := by decide +kernel
theorem dX1_addChains_40 : decode cX1_addChains 40 = .ok (.iconst 1, 1) := by decide +kernel
theorem dX1_addChains_41 : decode cX1_addChains 41 = .ok (.iand, 1) := by decide +kernel
theorem dX1_addChains_42 : decode cX1_addChains 42 = .ok (.ifCond .eq 14, 3) := by decide +kernel
theorem dX1_addChains_45 : decode cX1_addChains 45 = .ok (.aload_n 0, 1) := by decide +kernel
theorem dX1_addChains_46 : decode cX1_addChains 46 = .ok (.getfield 49, 3) := by decide +kernel
theorem dX1_addChains_49 : decode cX1_addChains 49 = .ok (.iload 5, 2) := by decide +kernel
theorem dX1_addChains_51 : decode cX1_addChains 51 = .ok (.dup2, 1) := by decide +kernel
theorem dX1_addChains_52 : decode cX1_addChains 52 = .ok (.iaload, 1) := by decide +kernel
theorem dX1_addChains_53 : decode cX1_addChains 53 = .ok (.iload_n 3, 1) := by decide +kernel
theorem dX1_addChains_54 : decode cX1_addChains 54 = .ok (.ior, 1) := by decide +kernel
theorem dX1_addChains_55 : decode cX1_addChains 55 = .ok (.iastore, 1) := by decide +kernel
theorem dX1_addChains_56 : decode cX1_addChains 56 = .ok (.iload_n 3, 1) := by decide +kernel
theorem dX1_addChains_57 : decode cX1_addChains 57 = .ok (.iload 5, 2) := by decide +kernel
theorem dX1_addChains_59 : decode cX1_addChains 59 = .ok (.ishr, 1) := by decide +kernel
theorem dX1_addChains_60 : decode cX1_addChains 60 = .ok (.iconst 1, 1) := by decide +kernel
theorem dX1_addChains_61 : decode cX1_addChains 61 = .ok (.iand, 1) := by decide +kernel
theorem dX1_addChains_62 : decode cX1_addChains 62 = .ok (.ifCond .eq 15, 3) := by decide +kernel
theorem dX1_addChains_65 : decode cX1_addChains 65 = .ok (.aload_n 0, 1) := by decide +kernel
theorem dX1_addChains_66 : decode cX1_addChains 66 = .ok (.getfield 52, 3) := by decide +kernel
theorem dX1_addChains_69 : decode cX1_addChains 69 = .ok (.iload 5, 2) := by decide +kernel
theorem dX1_addChains_71 : decode cX1_addChains 71 = .ok (.dup2, 1) := by decide +kernel
theorem dX1_addChains_72 : decode cX1_addChains 72 = .ok (.iaload, 1) := by decide +kernel
theorem dX1_addChains_73 : decode cX1_addChains 73 = .ok (.iload 4, 2) := by decide +kernel
theorem dX1_addChains_75 : decode cX1_addChains 75 = .ok (.ior, 1) := by decide +kernel
theorem dX1_addChains_76 : decode cX1_addChains 76 = .ok (.iastore, 1) := by decide +kernel
theorem dX1_addChains_77 : decode cX1_addChains 77 = .ok (.iinc 5 1, 3) := by decide +kernel
theorem dX1_addChains_80 : decode cX1_addChains 80 = .ok (.goto (-54), 3) := by decide +kernel
theorem dX1_addChains_83 : decode cX1_addChains 83 = .ok (.return_, 1) := by decide +kernel
theorem dX1_hasBetween_0 : decode cX1_hasBetween 0 = .ok (.aload_n 0, 1) := by decide +kernel
theorem dX1_hasBetween_1 : decode cX1_hasBetween 1 = .ok (.getfield 49, 3) := by decide +kernel
theorem dX1_hasBetween_4 : decode cX1_hasBetween 4 = .ok (.iload_n 1, 1) := by decide +kernel
theorem dX1_hasBetween_5 : decode cX1_hasBetween 5 = .ok (.iaload, 1) := by decide +kernel
theorem dX1_hasBetween_6 : decode cX1_hasBetween 6 = .ok (.aload_n 0, 1) := by decide +kernel
theorem dX1_hasBetween_7 : decode cX1_hasBetween 7 = .ok (.getfield 52, 3) := by decide +kernel
theorem dX1_hasBetween_10 : decode cX1_hasBetween 10 = .ok (.iload_n 2, 1) := by decide +kernel
theorem dX1_hasBetween_11 : decode cX1_hasBetween 11 = .ok (.iaload, 1) := by decide +kernel
theorem dX1_hasBetween_12 : decode cX1_hasBetween 12 = .ok (.iand, 1) := by decide +kernel
theorem dX1_hasBetween_13 : decode cX1_hasBetween 13 = .ok (.ifCond .ne 19, 3) := by decide +kernel
theorem dX1_hasBetween_16 : decode cX1_hasBetween 16 = .ok (.aload_n 0, 1) := by decide +kernel
theorem dX1_hasBetween_17 : decode cX1_hasBetween 17 = .ok (.getfield 49, 3) := by decide +kernel
theorem dX1_hasBetween_20 : decode cX1_hasBetween 20 = .ok (.iload_n 2, 1) := by decide +kernel
theorem dX1_hasBetween_21 : decode cX1_hasBetween 21 = .ok (.iaload, 1) := by decide +kernel
theorem dX1_hasBetween_22 : decode cX1_hasBetween 22 = .ok (.aload_n 0, 1) := by decide +kernel
theorem dX1_hasBetween_23 : decode cX1_hasBetween 23 = .ok (.getfield 52, 3) := by decide +kernel
theorem dX1_hasBetween_26 : decode cX1_hasBetween 26 = .ok (.iload_n 1, 1) := by decide +kernel
theorem dX1_hasBetween_27 : decode cX1_hasBetween 27 = .ok (.iaload, 1) := by decide +kernel
theorem dX1_hasBetween_28 : decode cX1_hasBetween 28 = .ok (.iand, 1) := by decide +kernel
theorem dX1_hasBetween_29 : decode cX1_hasBetween 29 = .ok (.ifCond .eq 7, 3) := by decide +kernel
theorem dX1_hasBetween_32 : decode cX1_hasBetween 32 = .ok (.iconst 1, 1) := by decide +kernel
theorem dX1_hasBetween_33 : decode cX1_hasBetween 33 = .ok (.goto 4, 3) := by decide +kernel
theorem dX1_hasBetween_36 : decode cX1_hasBetween 36 = .ok (.iconst 0, 1) := by decide +kernel
theorem dX1_hasBetween_37 : decode cX1_hasBetween 37 = .ok (.ireturn, 1) := by decide +kernel
theorem dX1_toldHand_0 : decode cX1_toldHand 0 = .ok (.aload_n 0, 1) := by decide +kernel
theorem dX1_toldHand_1 : decode cX1_toldHand 1 = .ok (.getfield 24, 3) := by decide +kernel
theorem dX1_toldHand_4 : decode cX1_toldHand 4 = .ok (.iload_n 1, 1) := by decide +kernel
theorem dX1_toldHand_5 : decode cX1_toldHand 5 = .ok (.ishr, 1) := by decide +kernel
theorem dX1_toldHand_6 : decode cX1_toldHand 6 = .ok (.iconst 1, 1) := by decide +kernel
theorem dX1_toldHand_7 : decode cX1_toldHand 7 = .ok (.iand, 1) := by decide +kernel
theorem dX1_toldHand_8 : decode cX1_toldHand 8 = .ok (.ifCond .eq 5, 3) := by decide +kernel
theorem dX1_toldHand_11 : decode cX1_toldHand 11 = .ok (.iconst 0, 1) := by decide +kernel
theorem dX1_toldHand_12 : decode cX1_toldHand 12 = .ok (.ireturn, 1) := by decide +kernel
theorem dX1_toldHand_13 : decode cX1_toldHand 13 = .ok (.aload_n 0, 1) := by decide +kernel
theorem dX1_toldHand_14 : decode cX1_toldHand 14 = .ok (.getfield 27, 3) := by decide +kernel
theorem dX1_toldHand_17 : decode cX1_toldHand 17 = .ok (.iload_n 1, 1) := by decide +kernel
theorem dX1_toldHand_18 : decode cX1_toldHand 18 = .ok (.ishr, 1) := by decide +kernel
theorem dX1_toldHand_19 : decode cX1_toldHand 19 = .ok (.iconst 1, 1) := by decide +kernel
theorem dX1_toldHand_20 : decode cX1_toldHand 20 = .ok (.iand, 1) := by decide +kernel
theorem dX1_toldHand_21 : decode cX1_toldHand 21 = .ok (.ifCond .eq 7, 3) := by decide +kernel
theorem dX1_toldHand_24 : decode cX1_toldHand 24 = .ok (.iconst 1, 1) := by decide +kernel
theorem dX1_toldHand_25 : decode cX1_toldHand 25 = .ok (.goto 4, 3) := by decide +kernel
theorem dX1_toldHand_28 : decode cX1_toldHand 28 = .ok (.iconst (-1), 1) := by decide +kernel
theorem dX1_toldHand_29 : decode cX1_toldHand 29 = .ok (.ireturn, 1) := by decide +kernel
theorem dX1_setHand_0 : decode cX1_setHand 0 = .ok (.iconst 1, 1) := by decide +kernel
theorem dX1_setHand_1 : decode cX1_setHand 1 = .ok (.iload_n 1, 1) := by decide +kernel
theorem dX1_setHand_2 : decode cX1_setHand 2 = .ok (.ishl, 1) := by decide +kernel
theorem dX1_setHand_3 : decode cX1_setHand 3 = .ok (.istore_n 3, 1) := by decide +kernel
theorem dX1_setHand_4 : decode cX1_setHand 4 = .ok (.aload_n 0, 1) := by decide +kernel
theorem dX1_setHand_5 : decode cX1_setHand 5 = .ok (.dup, 1) := by decide +kernel
theorem dX1_setHand_6 : decode cX1_setHand 6 = .ok (.getfield 24, 3) := by decide +kernel
theorem dX1_setHand_9 : decode cX1_setHand 9 = .ok (.iload_n 3, 1) := by decide +kernel
theorem dX1_setHand_10 : decode cX1_setHand 10 = .ok (.iconst (-1), 1) := by decide +kernel
theorem dX1_setHand_11 : decode cX1_setHand 11 = .ok (.ixor, 1) := by decide +kernel
theorem dX1_setHand_12 : decode cX1_setHand 12 = .ok (.iand, 1) := by decide +kernel
theorem dX1_setHand_13 : decode cX1_setHand 13 = .ok (.putfield 24, 3) := by decide +kernel
theorem dX1_setHand_16 : decode cX1_setHand 16 = .ok (.aload_n 0, 1) := by decide +kernel
theorem dX1_setHand_17 : decode cX1_setHand 17 = .ok (.dup, 1) := by decide +kernel
theorem dX1_setHand_18 : decode cX1_setHand 18 = .ok (.getfield 27, 3) := by decide +kernel
theorem dX1_setHand_21 : decode cX1_setHand 21 = .ok (.iload_n 3, 1) := by decide +kernel
theorem dX1_setHand_22 : decode cX1_setHand 22 = .ok (.iconst (-1), 1) := by decide +kernel
theorem dX1_setHand_23 : decode cX1_setHand 23 = .ok (.ixor, 1) := by decide +kernel
theorem dX1_setHand_24 : decode cX1_setHand 24 = .ok (.iand, 1) := by decide +kernel
theorem dX1_setHand_25 : decode cX1_setHand 25 = .ok (.putfield 27, 3) := by decide +kernel
theorem dX1_setHand_28 : decode cX1_setHand 28 = .ok (.iload_n 2, 1) := by decide +kernel
theorem dX1_setHand_29 : decode cX1_setHand 29 = .ok (.ifCond .ne 13, 3) := by decide +kernel
theorem dX1_setHand_32 : decode cX1_setHand 32 = .ok (.aload_n 0, 1) := by decide +kernel
theorem dX1_setHand_33 : decode cX1_setHand 33 = .ok (.dup, 1) := by decide +kernel
theorem dX1_setHand_34 : decode cX1_setHand 34 = .ok (.getfield 24, 3) := by decide +kernel
theorem dX1_setHand_37 : decode cX1_setHand 37 = .ok (.iload_n 3, 1) := by decide +kernel
theorem dX1_setHand_38 : decode cX1_setHand 38 = .ok (.ior, 1) := by decide +kernel
theorem dX1_setHand_39 : decode cX1_setHand 39 = .ok (.putfield 24, 3) := by decide +kernel
theorem dX1_setHand_42 : decode cX1_setHand 42 = .ok (.iload_n 2, 1) := by decide +kernel
theorem dX1_setHand_43 : decode cX1_setHand 43 = .ok (.iconst 1, 1) := by decide +kernel
theorem dX1_setHand_44 : decode cX1_setHand 44 = .ok (.if_icmp .ne 13, 3) := by decide +kernel
theorem dX1_setHand_47 : decode cX1_setHand 47 = .ok (.aload_n 0, 1) := by decide +kernel
theorem dX1_setHand_48 : decode cX1_setHand 48 = .ok (.dup, 1) := by decide +kernel
theorem dX1_setHand_49 : decode cX1_setHand 49 = .ok (.getfield 27, 3) := by decide +kernel
theorem dX1_setHand_52 : decode cX1_setHand 52 = .ok (.iload_n 3, 1) := by decide +kernel
theorem dX1_setHand_53 : decode cX1_setHand 53 = .ok (.ior, 1) := by decide +kernel
theorem dX1_setHand_54 : decode cX1_setHand 54 = .ok (.putfield 27, 3) := by decide +kernel
theorem dX1_setHand_57 : decode cX1_setHand 57 = .ok (.return_, 1) := by decide +kernel
theorem dX1_handLeavesNoWay_0 : decode cX1_handLeavesNoWay 0 = .ok (.iload_n 2, 1) := by decide +kernel
theorem dX1_handLeavesNoWay_1 : decode cX1_handLeavesNoWay 1 = .ok (.ifCond .ne 23, 3) := by decide +kernel
theorem dX1_handLeavesNoWay_4 : decode cX1_handLeavesNoWay 4 = .ok (.aload_n 0, 1) := by decide +kernel
theorem dX1_handLeavesNoWay_5 : decode cX1_handLeavesNoWay 5 = .ok (.getfield 27, 3) := by decide +kernel
theorem dX1_handLeavesNoWay_8 : decode cX1_handLeavesNoWay 8 = .ok (.aload_n 0, 1) := by decide +kernel
theorem dX1_handLeavesNoWay_9 : decode cX1_handLeavesNoWay 9 = .ok (.getfield 49, 3) := by decide +kernel
theorem dX1_handLeavesNoWay_12 : decode cX1_handLeavesNoWay 12 = .ok (.iload_n 1, 1) := by decide +kernel
theorem dX1_handLeavesNoWay_13 : decode cX1_handLeavesNoWay 13 = .ok (.iaload, 1) := by decide +kernel
theorem dX1_handLeavesNoWay_14 : decode cX1_handLeavesNoWay 14 = .ok (.iand, 1) := by decide +kernel
theorem dX1_handLeavesNoWay_15 : decode cX1_handLeavesNoWay 15 = .ok (.ifCond .eq 7, 3) := by decide +kernel
theorem dX1_handLeavesNoWay_18 : decode cX1_handLeavesNoWay 18 = .ok (.iconst 1, 1) := by decide +kernel
theorem dX1_handLeavesNoWay_19 : decode cX1_handLeavesNoWay 19 = .ok (.goto 4, 3) := by decide +kernel
theorem dX1_handLeavesNoWay_22 : decode cX1_handLeavesNoWay 22 = .ok (.iconst 0, 1) := by decide +kernel
theorem dX1_handLeavesNoWay_23 : decode cX1_handLeavesNoWay 23 = .ok (.ireturn, 1) := by decide +kernel
theorem dX1_handLeavesNoWay_24 : decode cX1_handLeavesNoWay 24 = .ok (.iload_n 2, 1) := by decide +kernel
theorem dX1_handLeavesNoWay_25 : decode cX1_handLeavesNoWay 25 = .ok (.iconst 1, 1) := by decide +kernel
theorem dX1_handLeavesNoWay_26 : decode cX1_handLeavesNoWay 26 = .ok (.if_icmp .ne 21, 3) := by decide +kernel
theorem dX1_handLeavesNoWay_29 : decode cX1_handLeavesNoWay 29 = .ok (.aload_n 0, 1) := by decide +kernel
theorem dX1_handLeavesNoWay_30 : decode cX1_handLeavesNoWay 30 = .ok (.getfield 24, 3) := by decide +kernel
theorem dX1_handLeavesNoWay_33 : decode cX1_handLeavesNoWay 33 = .ok (.aload_n 0, 1) := by decide +kernel
theorem dX1_handLeavesNoWay_34 : decode cX1_handLeavesNoWay 34 = .ok (.getfield 52, 3) := by decide +kernel
theorem dX1_handLeavesNoWay_37 : decode cX1_handLeavesNoWay 37 = .ok (.iload_n 1, 1) := by decide +kernel
theorem dX1_handLeavesNoWay_38 : decode cX1_handLeavesNoWay 38 = .ok (.iaload, 1) := by decide +kernel
theorem dX1_handLeavesNoWay_39 : decode cX1_handLeavesNoWay 39 = .ok (.iand, 1) := by decide +kernel
theorem dX1_handLeavesNoWay_40 : decode cX1_handLeavesNoWay 40 = .ok (.ifCond .eq 7, 3) := by decide +kernel
theorem dX1_handLeavesNoWay_43 : decode cX1_handLeavesNoWay 43 = .ok (.iconst 1, 1) := by decide +kernel
theorem dX1_handLeavesNoWay_44 : decode cX1_handLeavesNoWay 44 = .ok (.goto 4, 3) := by decide +kernel
theorem dX1_handLeavesNoWay_47 : decode cX1_handLeavesNoWay 47 = .ok (.iconst 0, 1) := by decide +kernel
theorem dX1_handLeavesNoWay_48 : decode cX1_handLeavesNoWay 48 = .ok (.ireturn, 1) := by decide +kernel
theorem dX1_mustBeLower_0 : decode cX1_mustBeLower 0 = .ok (.iload_n 1, 1) := by decide +kernel
theorem dX1_mustBeLower_1 : decode cX1_mustBeLower 1 = .ok (.istore_n 2, 1) := by decide +kernel
theorem dX1_mustBeLower_2 : decode cX1_mustBeLower 2 = .ok (.iconst 0, 1) := by decide +kernel
theorem dX1_mustBeLower_3 : decode cX1_mustBeLower 3 = .ok (.istore_n 3, 1) := by decide +kernel
theorem dX1_mustBeLower_4 : decode cX1_mustBeLower 4 = .ok (.iload_n 3, 1) := by decide +kernel
theorem dX1_mustBeLower_5 : decode cX1_mustBeLower 5 = .ok (.aload_n 0, 1) := by decide +kernel
theorem dX1_mustBeLower_6 : decode cX1_mustBeLower 6 = .ok (.getfield 18, 3) := by decide +kernel
theorem dX1_mustBeLower_9 : decode cX1_mustBeLower 9 = .ok (.if_icmp .ge 26, 3) := by decide +kernel
theorem dX1_mustBeLower_12 : decode cX1_mustBeLower 12 = .ok (.iload_n 1, 1) := by decide +kernel
theorem dX1_mustBeLower_13 : decode cX1_mustBeLower 13 = .ok (.iload_n 3, 1) := by decide +kernel
theorem dX1_mustBeLower_14 : decode cX1_mustBeLower 14 = .ok (.ishr, 1) := by decide +kernel
theorem dX1_mustBeLower_15 : decode cX1_mustBeLower 15 = .ok (.iconst 1, 1) := by decide +kernel
theorem dX1_mustBeLower_16 : decode cX1_mustBeLower 16 = .ok (.iand, 1) := by decide +kernel
theorem dX1_mustBeLower_17 : decode cX1_mustBeLower 17 = .ok (.ifCond .eq 12, 3) := by decide +kernel
theorem dX1_mustBeLower_20 : decode cX1_mustBeLower 20 = .ok (.iload_n 2, 1) := by decide +kernel
theorem dX1_mustBeLower_21 : decode cX1_mustBeLower 21 = .ok (.aload_n 0, 1) := by decide +kernel
theorem dX1_mustBeLower_22 : decode cX1_mustBeLower 22 = .ok (.getfield 49, 3) := by decide +kernel
theorem dX1_mustBeLower_25 : decode cX1_mustBeLower 25 = .ok (.iload_n 3, 1) := by decide +kernel
theorem dX1_mustBeLower_26 : decode cX1_mustBeLower 26 = .ok (.iaload, 1) := by decide +kernel
theorem dX1_mustBeLower_27 : decode cX1_mustBeLower 27 = .ok (.ior, 1) := by decide +kernel
theorem dX1_mustBeLower_28 : decode cX1_mustBeLower 28 = .ok (.istore_n 2, 1) := by decide +kernel
theorem dX1_mustBeLower_29 : decode cX1_mustBeLower 29 = .ok (.iinc 3 1, 3) := by decide +kernel
theorem dX1_mustBeLower_32 : decode cX1_mustBeLower 32 = .ok (.goto (-28), 3) := by decide +kernel
theorem dX1_mustBeLower_35 : decode cX1_mustBeLower 35 = .ok (.iload_n 2, 1) := by decide +kernel
theorem dX1_mustBeLower_36 : decode cX1_mustBeLower 36 = .ok (.ireturn, 1) := by decide +kernel
theorem dX1_mustOf_0 : decode cX1_mustOf 0 = .ok (.aload_n 0, 1) := by decide +kernel
theorem dX1_mustOf_1 : decode cX1_mustOf 1 = .ok (.getfield 24, 3) := by decide +kernel
theorem dX1_mustOf_4 : decode cX1_mustOf 4 = .ok (.aload_n 0, 1) := by decide +kernel
theorem dX1_mustOf_5 : decode cX1_mustOf 5 = .ok (.getfield 52, 3) := by decide +kernel
theorem dX1_mustOf_8 : decode cX1_mustOf 8 = .ok (.iload_n 1, 1) := by decide +kernel
theorem dX1_mustOf_9 : decode cX1_mustOf 9 = .ok (.iaload, 1) := by decide +kernel
theorem dX1_mustOf_10 : decode cX1_mustOf 10 = .ok (.iconst 1, 1) := by decide +kernel
theorem dX1_mustOf_11 : decode cX1_mustOf 11 = .ok (.iload_n 1, 1) := by decide +kernel
theorem dX1_mustOf_12 : decode cX1_mustOf 12 = .ok (.ishl, 1) := by decide +kernel
theorem dX1_mustOf_13 : decode cX1_mustOf 13 = .ok (.ior, 1) := by decide +kernel
theorem dX1_mustOf_14 : decode cX1_mustOf 14 = .ok (.iand, 1) := by decide +kernel
theorem dX1_mustOf_15 : decode cX1_mustOf 15 = .ok (.ifCond .eq 5, 3) := by decide +kernel
theorem dX1_mustOf_18 : decode cX1_mustOf 18 = .ok (.iconst 0, 1) := by decide +kernel
theorem dX1_mustOf_19 : decode cX1_mustOf 19 = .ok (.ireturn, 1) := by decide +kernel
theorem dX1_mustOf_20 : decode cX1_mustOf 20 = .ok (.aload_n 0, 1) := by decide +kernel
theorem dX1_mustOf_21 : decode cX1_mustOf 21 = .ok (.getfield 27, 3) := by decide +kernel
theorem dX1_mustOf_24 : decode cX1_mustOf 24 = .ok (.aload_n 0, 1) := by decide +kernel
theorem dX1_mustOf_25 : decode cX1_mustOf 25 = .ok (.getfield 49, 3) := by decide +kernel
theorem dX1_mustOf_28 : decode cX1_mustOf 28 = .ok (.iload_n 1, 1) := by decide +kernel
theorem dX1_mustOf_29 : decode cX1_mustOf 29 = .ok (.iaload, 1) := by decide +kernel
theorem dX1_mustOf_30 : decode cX1_mustOf 30 = .ok (.iconst 1, 1) := by decide +kernel
theorem dX1_mustOf_31 : decode cX1_mustOf 31 = .ok (.iload_n 1, 1) := by decide +kernel
theorem dX1_mustOf_32 : decode cX1_mustOf 32 = .ok (.ishl, 1) := by decide +kernel
theorem dX1_mustOf_33 : decode cX1_mustOf 33 = .ok (.ior, 1) := by decide +kernel
theorem dX1_mustOf_34 : decode cX1_mustOf 34 = .ok (.iand, 1) := by decide +kernel
theorem dX1_mustOf_35 : decode cX1_mustOf 35 = .ok (.ifCond .eq 7, 3) := by decide +kernel
theorem dX1_mustOf_38 : decode cX1_mustOf 38 = .ok (.iconst 1, 1) := by decide +kernel
theorem dX1_mustOf_39 : decode cX1_mustOf 39 = .ok (.goto 4, 3) := by decide +kernel
theorem dX1_mustOf_42 : decode cX1_mustOf 42 = .ok (.iconst 2, 1) := by decide +kernel
theorem dX1_mustOf_43 : decode cX1_mustOf 43 = .ok (.ireturn, 1) := by decide +kernel
theorem dX1_readyAfter_0 : decode cX1_readyAfter 0 = .ok (.iconst 0, 1) := by decide +kernel
theorem dX1_readyAfter_1 : decode cX1_readyAfter 1 = .ok (.istore_n 2, 1) := by decide +kernel
theorem dX1_readyAfter_2 : decode cX1_readyAfter 2 = .ok (.iconst 0, 1) := by decide +kernel
theorem dX1_readyAfter_3 : decode cX1_readyAfter 3 = .ok (.istore_n 3, 1) := by decide +kernel
theorem dX1_readyAfter_4 : decode cX1_readyAfter 4 = .ok (.iload_n 3, 1) := by decide +kernel
theorem dX1_readyAfter_5 : decode cX1_readyAfter 5 = .ok (.aload_n 0, 1) := by decide +kernel
theorem dX1_readyAfter_6 : decode cX1_readyAfter 6 = .ok (.getfield 18, 3) := by decide +kernel
theorem dX1_readyAfter_9 : decode cX1_readyAfter 9 = .ok (.if_icmp .ge 36, 3) := by decide +kernel
theorem dX1_readyAfter_12 : decode cX1_readyAfter 12 = .ok (.iload_n 1, 1) := by decide +kernel
theorem dX1_readyAfter_13 : decode cX1_readyAfter 13 = .ok (.iload_n 3, 1) := by decide +kernel
theorem dX1_readyAfter_14 : decode cX1_readyAfter 14 = .ok (.ishr, 1) := by decide +kernel
theorem dX1_readyAfter_15 : decode cX1_readyAfter 15 = .ok (.iconst 1, 1) := by decide +kernel
theorem dX1_readyAfter_16 : decode cX1_readyAfter 16 = .ok (.iand, 1) := by decide +kernel
theorem dX1_readyAfter_17 : decode cX1_readyAfter 17 = .ok (.ifCond .ne 22, 3) := by decide +kernel
theorem dX1_readyAfter_20 : decode cX1_readyAfter 20 = .ok (.aload_n 0, 1) := by decide +kernel
theorem dX1_readyAfter_21 : decode cX1_readyAfter 21 = .ok (.getfield 49, 3) := by decide +kernel
theorem dX1_readyAfter_24 : decode cX1_readyAfter 24 = .ok (.iload_n 3, 1) := by decide +kernel
theorem dX1_readyAfter_25 : decode cX1_readyAfter 25 = .ok (.iaload, 1) := by decide +kernel
theorem dX1_readyAfter_26 : decode cX1_readyAfter 26 = .ok (.iload_n 1, 1) := by decide +kernel
theorem dX1_readyAfter_27 : decode cX1_readyAfter 27 = .ok (.iconst (-1), 1) := by decide +kernel
theorem dX1_readyAfter_28 : decode cX1_readyAfter 28 = .ok (.ixor, 1) := by decide +kernel
theorem dX1_readyAfter_29 : decode cX1_readyAfter 29 = .ok (.iand, 1) := by decide +kernel
theorem dX1_readyAfter_30 : decode cX1_readyAfter 30 = .ok (.ifCond .ne 9, 3) := by decide +kernel
theorem dX1_readyAfter_33 : decode cX1_readyAfter 33 = .ok (.iload_n 2, 1) := by decide +kernel
theorem dX1_readyAfter_34 : decode cX1_readyAfter 34 = .ok (.iconst 1, 1) := by decide +kernel
theorem dX1_readyAfter_35 : decode cX1_readyAfter 35 = .ok (.iload_n 3, 1) := by decide +kernel
theorem dX1_readyAfter_36 : decode cX1_readyAfter 36 = .ok (.ishl, 1) := by decide +kernel
theorem dX1_readyAfter_37 : decode cX1_readyAfter 37 = .ok (.ior, 1) := by decide +kernel
theorem dX1_readyAfter_38 : decode cX1_readyAfter 38 = .ok (.istore_n 2, 1) := by decide +kernel
theorem dX1_readyAfter_39 : decode cX1_readyAfter 39 = .ok (.iinc 3 1, 3) := by decide +kernel
theorem dX1_readyAfter_42 : decode cX1_readyAfter 42 = .ok (.goto (-38), 3) := by decide +kernel
theorem dX1_readyAfter_45 : decode cX1_readyAfter 45 = .ok (.iload_n 2, 1) := by decide +kernel
theorem dX1_readyAfter_46 : decode cX1_readyAfter 46 = .ok (.ireturn, 1) := by decide +kernel
theorem dX1_strokeInOrder_0 : decode cX1_strokeInOrder 0 = .ok (.iconst 0, 1) := by decide +kernel
theorem dX1_strokeInOrder_1 : decode cX1_strokeInOrder 1 = .ok (.istore_n 2, 1) := by decide +kernel
theorem dX1_strokeInOrder_2 : decode cX1_strokeInOrder 2 = .ok (.iconst 0, 1) := by decide +kernel
theorem dX1_strokeInOrder_3 : decode cX1_strokeInOrder 3 = .ok (.istore_n 3, 1) := by decide +kernel
theorem dX1_strokeInOrder_4 : decode cX1_strokeInOrder 4 = .ok (.iload_n 3, 1) := by decide +kernel
theorem dX1_strokeInOrder_5 : decode cX1_strokeInOrder 5 = .ok (.iload_n 1, 1) := by decide +kernel
theorem dX1_strokeInOrder_6 : decode cX1_strokeInOrder 6 = .ok (.if_icmp .ge 20, 3) := by decide +kernel
theorem dX1_strokeInOrder_9 : decode cX1_strokeInOrder 9 = .ok (.iload_n 2, 1) := by decide +kernel
theorem dX1_strokeInOrder_10 : decode cX1_strokeInOrder 10 = .ok (.aload_n 0, 1) := by decide +kernel
theorem dX1_strokeInOrder_11 : decode cX1_strokeInOrder 11 = .ok (.iload_n 2, 1) := by decide +kernel
theorem dX1_strokeInOrder_12 : decode cX1_strokeInOrder 12 = .ok (.invokevirtual 92, 3) := by decide +kernel
theorem dX1_strokeInOrder_15 : decode cX1_strokeInOrder 15 = .ok (.invokestatic 95, 3) := by decide +kernel
theorem dX1_strokeInOrder_18 : decode cX1_strokeInOrder 18 = .ok (.ior, 1) := by decide +kernel
theorem dX1_strokeInOrder_19 : decode cX1_strokeInOrder 19 = .ok (.istore_n 2, 1) := by decide +kernel
theorem dX1_strokeInOrder_20 : decode cX1_strokeInOrder 20 = .ok (.iinc 3 1, 3) := by decide +kernel
theorem dX1_strokeInOrder_23 : decode cX1_strokeInOrder 23 = .ok (.goto (-19), 3) := by decide +kernel
theorem dX1_strokeInOrder_26 : decode cX1_strokeInOrder 26 = .ok (.aload_n 0, 1) := by decide +kernel
theorem dX1_strokeInOrder_27 : decode cX1_strokeInOrder 27 = .ok (.iload_n 2, 1) := by decide +kernel
theorem dX1_strokeInOrder_28 : decode cX1_strokeInOrder 28 = .ok (.invokevirtual 92, 3) := by decide +kernel
theorem dX1_strokeInOrder_31 : decode cX1_strokeInOrder 31 = .ok (.invokestatic 98, 3) := by decide +kernel
theorem dX1_strokeInOrder_34 : decode cX1_strokeInOrder 34 = .ok (.ireturn, 1) := by decide +kernel
theorem dX1_layerOf_0 : decode cX1_layerOf 0 = .ok (.iconst 0, 1) := by decide +kernel
theorem dX1_layerOf_1 : decode cX1_layerOf 1 = .ok (.istore_n 2, 1) := by decide +kernel
theorem dX1_layerOf_2 : decode cX1_layerOf 2 = .ok (.iconst 0, 1) := by decide +kernel
theorem dX1_layerOf_3 : decode cX1_layerOf 3 = .ok (.istore_n 3, 1) := by decide +kernel
theorem dX1_layerOf_4 : decode cX1_layerOf 4 = .ok (.iconst 0, 1) := by decide +kernel
theorem dX1_layerOf_5 : decode cX1_layerOf 5 = .ok (.istore 4, 2) := by decide +kernel
theorem dX1_layerOf_7 : decode cX1_layerOf 7 = .ok (.iload 4, 2) := by decide +kernel
theorem dX1_layerOf_9 : decode cX1_layerOf 9 = .ok (.aload_n 0, 1) := by decide +kernel
theorem dX1_layerOf_10 : decode cX1_layerOf 10 = .ok (.getfield 18, 3) := by decide +kernel
theorem dX1_layerOf_13 : decode cX1_layerOf 13 = .ok (.if_icmp .ge 31, 3) := by decide +kernel
theorem dX1_layerOf_16 : decode cX1_layerOf 16 = .ok (.iload_n 2, 1) := by decide +kernel
theorem dX1_layerOf_17 : decode cX1_layerOf 17 = .ok (.aload_n 0, 1) := by decide +kernel
theorem dX1_layerOf_18 : decode cX1_layerOf 18 = .ok (.iload_n 2, 1) := by decide +kernel
theorem dX1_layerOf_19 : decode cX1_layerOf 19 = .ok (.invokevirtual 92, 3) := by decide +kernel
theorem dX1_layerOf_22 : decode cX1_layerOf 22 = .ok (.ior, 1) := by decide +kernel
theorem dX1_layerOf_23 : decode cX1_layerOf 23 = .ok (.istore_n 2, 1) := by decide +kernel
theorem dX1_layerOf_24 : decode cX1_layerOf 24 = .ok (.iload_n 2, 1) := by decide +kernel
theorem dX1_layerOf_25 : decode cX1_layerOf 25 = .ok (.iload_n 1, 1) := by decide +kernel
theorem dX1_layerOf_26 : decode cX1_layerOf 26 = .ok (.ishr, 1) := by decide +kernel
theorem dX1_layerOf_27 : decode cX1_layerOf 27 = .ok (.iconst 1, 1) := by decide +kernel
theorem dX1_layerOf_28 : decode cX1_layerOf 28 = .ok (.iand, 1) := by decide +kernel
theorem dX1_layerOf_29 : decode cX1_layerOf 29 = .ok (.ifCond .eq 6, 3) := by decide +kernel
theorem dX1_layerOf_32 : decode cX1_layerOf 32 = .ok (.goto 12, 3) := by decide +kernel
theorem dX1_layerOf_35 : decode cX1_layerOf 35 = .ok (.iinc 3 1, 3) := by decide +kernel
theorem dX1_layerOf_38 : decode cX1_layerOf 38 = .ok (.iinc 4 1, 3) := by decide +kernel
theorem dX1_layerOf_41 : decode cX1_layerOf 41 = .ok (.goto (-34), 3) := by decide +kernel
theorem dX1_layerOf_44 : decode cX1_layerOf 44 = .ok (.iload_n 3, 1) := by decide +kernel
theorem dX1_layerOf_45 : decode cX1_layerOf 45 = .ok (.ireturn, 1) := by decide +kernel
theorem dX1_countLayers_0 : decode cX1_countLayers 0 = .ok (.iconst 0, 1) := by decide +kernel
theorem dX1_countLayers_1 : decode cX1_countLayers 1 = .ok (.istore_n 1, 1) := by decide +kernel
theorem dX1_countLayers_2 : decode cX1_countLayers 2 = .ok (.iconst 0, 1) := by decide +kernel
theorem dX1_countLayers_3 : decode cX1_countLayers 3 = .ok (.istore_n 2, 1) := by decide +kernel
theorem dX1_countLayers_4 : decode cX1_countLayers 4 = .ok (.iload_n 2, 1) := by decide +kernel
theorem dX1_countLayers_5 : decode cX1_countLayers 5 = .ok (.aload_n 0, 1) := by decide +kernel
theorem dX1_countLayers_6 : decode cX1_countLayers 6 = .ok (.getfield 18, 3) := by decide +kernel
theorem dX1_countLayers_9 : decode cX1_countLayers 9 = .ok (.if_icmp .ge 21, 3) := by decide +kernel
theorem dX1_countLayers_12 : decode cX1_countLayers 12 = .ok (.iload_n 1, 1) := by decide +kernel
theorem dX1_countLayers_13 : decode cX1_countLayers 13 = .ok (.aload_n 0, 1) := by decide +kernel
theorem dX1_countLayers_14 : decode cX1_countLayers 14 = .ok (.iload_n 2, 1) := by decide +kernel
theorem dX1_countLayers_15 : decode cX1_countLayers 15 = .ok (.invokevirtual 101, 3) := by decide +kernel
theorem dX1_countLayers_18 : decode cX1_countLayers 18 = .ok (.iconst 1, 1) := by decide +kernel
theorem dX1_countLayers_19 : decode cX1_countLayers 19 = .ok (.iadd, 1) := by decide +kernel
theorem dX1_countLayers_20 : decode cX1_countLayers 20 = .ok (.invokestatic 104, 3) := by decide +kernel
theorem dX1_countLayers_23 : decode cX1_countLayers 23 = .ok (.istore_n 1, 1) := by decide +kernel
theorem dX1_countLayers_24 : decode cX1_countLayers 24 = .ok (.iinc 2 1, 3) := by decide +kernel
theorem dX1_countLayers_27 : decode cX1_countLayers 27 = .ok (.goto (-23), 3) := by decide +kernel
theorem dX1_countLayers_30 : decode cX1_countLayers 30 = .ok (.iload_n 1, 1) := by decide +kernel
theorem dX1_countLayers_31 : decode cX1_countLayers 31 = .ok (.ireturn, 1) := by decide +kernel
theorem dX1_topOf_0 : decode cX1_topOf 0 = .ok (.iconst 0, 1) := by decide +kernel
theorem dX1_topOf_1 : decode cX1_topOf 1 = .ok (.istore_n 2, 1) := by decide +kernel
theorem dX1_topOf_2 : decode cX1_topOf 2 = .ok (.iload_n 2, 1) := by decide +kernel
theorem dX1_topOf_3 : decode cX1_topOf 3 = .ok (.aload_n 0, 1) := by decide +kernel
theorem dX1_topOf_4 : decode cX1_topOf 4 = .ok (.getfield 18, 3) := by decide +kernel
theorem dX1_topOf_7 : decode cX1_topOf 7 = .ok (.if_icmp .ge 46, 3) := by decide +kernel
theorem dX1_topOf_10 : decode cX1_topOf 10 = .ok (.iload_n 1, 1) := by decide +kernel
theorem dX1_topOf_11 : decode cX1_topOf 11 = .ok (.iload_n 2, 1) := by decide +kernel
theorem dX1_topOf_12 : decode cX1_topOf 12 = .ok (.ishr, 1) := by decide +kernel
theorem dX1_topOf_13 : decode cX1_topOf 13 = .ok (.iconst 1, 1) := by decide +kernel
theorem dX1_topOf_14 : decode cX1_topOf 14 = .ok (.iand, 1) := by decide +kernel
theorem dX1_topOf_15 : decode cX1_topOf 15 = .ok (.ifCond .eq 7, 3) := by decide +kernel
theorem dX1_topOf_18 : decode cX1_topOf 18 = .ok (.iconst 1, 1) := by decide +kernel
theorem dX1_topOf_19 : decode cX1_topOf 19 = .ok (.goto 4, 3) := by decide +kernel
theorem dX1_topOf_22 : decode cX1_topOf 22 = .ok (.iconst 0, 1) := by decide +kernel
theorem dX1_topOf_23 : decode cX1_topOf 23 = .ok (.istore_n 3, 1) := by decide +kernel
theorem dX1_topOf_24 : decode cX1_topOf 24 = .ok (.iload_n 3, 1) := by decide +kernel
theorem dX1_topOf_25 : decode cX1_topOf 25 = .ok (.ifCond .eq 22, 3) := by decide +kernel
theorem dX1_topOf_28 : decode cX1_topOf 28 = .ok (.iload_n 1, 1) := by decide +kernel
theorem dX1_topOf_29 : decode cX1_topOf 29 = .ok (.aload_n 0, 1) := by decide +kernel
theorem dX1_topOf_30 : decode cX1_topOf 30 = .ok (.getfield 49, 3) := by decide +kernel
theorem dX1_topOf_33 : decode cX1_topOf 33 = .ok (.iload_n 2, 1) := by decide +kernel
theorem dX1_topOf_34 : decode cX1_topOf 34 = .ok (.iaload, 1) := by decide +kernel
theorem dX1_topOf_35 : decode cX1_topOf 35 = .ok (.iconst 1, 1) := by decide +kernel
theorem dX1_topOf_36 : decode cX1_topOf 36 = .ok (.iload_n 2, 1) := by decide +kernel
theorem dX1_topOf_37 : decode cX1_topOf 37 = .ok (.ishl, 1) := by decide +kernel
theorem dX1_topOf_38 : decode cX1_topOf 38 = .ok (.ior, 1) := by decide +kernel
theorem dX1_topOf_39 : decode cX1_topOf 39 = .ok (.iconst (-1), 1) := by decide +kernel
theorem dX1_topOf_40 : decode cX1_topOf 40 = .ok (.ixor, 1) := by decide +kernel
theorem dX1_topOf_41 : decode cX1_topOf 41 = .ok (.iand, 1) := by decide +kernel
theorem dX1_topOf_42 : decode cX1_topOf 42 = .ok (.ifCond .ne 5, 3) := by decide +kernel
theorem dX1_topOf_45 : decode cX1_topOf 45 = .ok (.iload_n 2, 1) := by decide +kernel
theorem dX1_topOf_46 : decode cX1_topOf 46 = .ok (.ireturn, 1) := by decide +kernel
theorem dX1_topOf_47 : decode cX1_topOf 47 = .ok (.iinc 2 1, 3) := by decide +kernel
theorem dX1_topOf_50 : decode cX1_topOf 50 = .ok (.goto (-48), 3) := by decide +kernel
theorem dX1_topOf_53 : decode cX1_topOf 53 = .ok (.iconst (-1), 1) := by decide +kernel
theorem dX1_topOf_54 : decode cX1_topOf 54 = .ok (.ireturn, 1) := by decide +kernel
theorem dX1_seenOf_0 : decode cX1_seenOf 0 = .ok (.iload_n 1, 1) := by decide +kernel
theorem dX1_seenOf_1 : decode cX1_seenOf 1 = .ok (.ifCond .ne 5, 3) := by decide +kernel
theorem dX1_seenOf_4 : decode cX1_seenOf 4 = .ok (.iconst 0, 1) := by decide +kernel
theorem dX1_seenOf_5 : decode cX1_seenOf 5 = .ok (.ireturn, 1) := by decide +kernel
theorem dX1_seenOf_6 : decode cX1_seenOf 6 = .ok (.aload_n 0, 1) := by decide +kernel
theorem dX1_seenOf_7 : decode cX1_seenOf 7 = .ok (.iload_n 1, 1) := by decide +kernel
theorem dX1_seenOf_8 : decode cX1_seenOf 8 = .ok (.invokevirtual 109, 3) := by decide +kernel
theorem dX1_seenOf_11 : decode cX1_seenOf 11 = .ok (.istore_n 3, 1) := by decide +kernel
theorem dX1_seenOf_12 : decode cX1_seenOf 12 = .ok (.iload_n 3, 1) := by decide +kernel
theorem dX1_seenOf_13 : decode cX1_seenOf 13 = .ok (.iconst (-1), 1) := by decide +kernel
theorem dX1_seenOf_14 : decode cX1_seenOf 14 = .ok (.if_icmp .eq 15, 3) := by decide +kernel
theorem dX1_seenOf_17 : decode cX1_seenOf 17 = .ok (.iload_n 2, 1) := by decide +kernel
theorem dX1_seenOf_18 : decode cX1_seenOf 18 = .ok (.iload_n 3, 1) := by decide +kernel
theorem dX1_seenOf_19 : decode cX1_seenOf 19 = .ok (.ishr, 1) := by decide +kernel
theorem dX1_seenOf_20 : decode cX1_seenOf 20 = .ok (.iconst 1, 1) := by decide +kernel
theorem dX1_seenOf_21 : decode cX1_seenOf 21 = .ok (.iand, 1) := by decide +kernel
theorem dX1_seenOf_22 : decode cX1_seenOf 22 = .ok (.ifCond .eq 7, 3) := by decide +kernel
theorem dX1_seenOf_25 : decode cX1_seenOf 25 = .ok (.iconst 1, 1) := by decide +kernel
theorem dX1_seenOf_26 : decode cX1_seenOf 26 = .ok (.goto 4, 3) := by decide +kernel
theorem dX1_seenOf_29 : decode cX1_seenOf 29 = .ok (.iconst 2, 1) := by decide +kernel
theorem dX1_seenOf_30 : decode cX1_seenOf 30 = .ok (.ireturn, 1) := by decide +kernel
theorem dX1_lookAt_0 : decode cX1_lookAt 0 = .ok (.iconst 0, 1) := by decide +kernel
theorem dX1_lookAt_1 : decode cX1_lookAt 1 = .ok (.istore 5, 2) := by decide +kernel
theorem dX1_lookAt_3 : decode cX1_lookAt 3 = .ok (.iconst 0, 1) := by decide +kernel
theorem dX1_lookAt_4 : decode cX1_lookAt 4 = .ok (.istore 6, 2) := by decide +kernel
theorem dX1_lookAt_6 : decode cX1_lookAt 6 = .ok (.iload 6, 2) := by decide +kernel
theorem dX1_lookAt_8 : decode cX1_lookAt 8 = .ok (.bipush 9, 2) := by decide +kernel
theorem dX1_lookAt_10 : decode cX1_lookAt 10 = .ok (.if_icmp .ge 73, 3) := by decide +kernel
theorem dX1_lookAt_13 : decode cX1_lookAt 13 = .ok (.aload_n 0, 1) := by decide +kernel
theorem dX1_lookAt_14 : decode cX1_lookAt 14 = .ok (.iload_n 1, 1) := by decide +kernel
theorem dX1_lookAt_15 : decode cX1_lookAt 15 = .ok (.iload 6, 2) := by decide +kernel
theorem dX1_lookAt_17 : decode cX1_lookAt 17 = .ok (.iconst 3, 1) := by decide +kernel
theorem dX1_lookAt_18 : decode cX1_lookAt 18 = .ok (.irem, 1) := by decide +kernel
theorem dX1_lookAt_19 : decode cX1_lookAt 19 = .ok (.iadd, 1) := by decide +kernel
theorem dX1_lookAt_20 : decode cX1_lookAt 20 = .ok (.iload_n 2, 1) := by decide +kernel
theorem dX1_lookAt_21 : decode cX1_lookAt 21 = .ok (.iload 6, 2) := by decide +kernel
theorem dX1_lookAt_23 : decode cX1_lookAt 23 = .ok (.iconst 3, 1) := by decide +kernel
theorem dX1_lookAt_24 : decode cX1_lookAt 24 = .ok (.idiv, 1) := by decide +kernel
theorem dX1_lookAt_25 : decode cX1_lookAt 25 = .ok (.iadd, 1) := by decide +kernel
theorem dX1_lookAt_26 : decode cX1_lookAt 26 = .ok (.invokevirtual 72, 3) := by decide +kernel
theorem dX1_lookAt_29 : decode cX1_lookAt 29 = .ok (.iload 4, 2) := by decide +kernel
theorem dX1_lookAt_31 : decode cX1_lookAt 31 = .ok (.iconst (-1), 1) := by decide +kernel
theorem dX1_lookAt_32 : decode cX1_lookAt 32 = .ok (.ixor, 1) := by decide +kernel
theorem dX1_lookAt_33 : decode cX1_lookAt 33 = .ok (.iand, 1) := by decide +kernel
theorem dX1_lookAt_34 : decode cX1_lookAt 34 = .ok (.istore 7, 2) := by decide +kernel
theorem dX1_lookAt_36 : decode cX1_lookAt 36 = .ok (.aload_n 0, 1) := by decide +kernel
theorem dX1_lookAt_37 : decode cX1_lookAt 37 = .ok (.iload 7, 2) := by decide +kernel
theorem dX1_lookAt_39 : decode cX1_lookAt 39 = .ok (.iload_n 3, 1) := by decide +kernel
theorem dX1_lookAt_40 : decode cX1_lookAt 40 = .ok (.invokevirtual 112, 3) := by decide +kernel
theorem dX1_lookAt_43 : decode cX1_lookAt 43 = .ok (.istore 8, 2) := by decide +kernel
theorem dX1_lookAt_45 : decode cX1_lookAt 45 = .ok (.iload 8, 2) := by decide +kernel
theorem dX1_lookAt_47 : decode cX1_lookAt 47 = .ok (.ifCond .ne 12, 3) := by decide +kernel
theorem dX1_lookAt_50 : decode cX1_lookAt 50 = .ok (.iload 5, 2) := by decide +kernel
theorem dX1_lookAt_52 : decode cX1_lookAt 52 = .ok (.iconst 1, 1) := by decide +kernel
theorem dX1_lookAt_53 : decode cX1_lookAt 53 = .ok (.iload 6, 2) := by decide +kernel
theorem dX1_lookAt_55 : decode cX1_lookAt 55 = .ok (.ishl, 1) := by decide +kernel
theorem dX1_lookAt_56 : decode cX1_lookAt 56 = .ok (.ior, 1) := by decide +kernel
theorem dX1_lookAt_57 : decode cX1_lookAt 57 = .ok (.istore 5, 2) := by decide +kernel
theorem dX1_lookAt_59 : decode cX1_lookAt 59 = .ok (.iload 8, 2) := by decide +kernel
theorem dX1_lookAt_61 : decode cX1_lookAt 61 = .ok (.iconst 1, 1) := by decide +kernel
theorem dX1_lookAt_62 : decode cX1_lookAt 62 = .ok (.if_icmp .ne 15, 3) := by decide +kernel
theorem dX1_lookAt_65 : decode cX1_lookAt 65 = .ok (.iload 5, 2) := by decide +kernel
theorem dX1_lookAt_67 : decode cX1_lookAt 67 = .ok (.iconst 1, 1) := by decide +kernel
theorem dX1_lookAt_68 : decode cX1_lookAt 68 = .ok (.iload 6, 2) := by decide +kernel
theorem dX1_lookAt_70 : decode cX1_lookAt 70 = .ok (.bipush 9, 2) := by decide +kernel
theorem dX1_lookAt_72 : decode cX1_lookAt 72 = .ok (.iadd, 1) := by decide +kernel
theorem dX1_lookAt_73 : decode cX1_lookAt 73 = .ok (.ishl, 1) := by decide +kernel
theorem dX1_lookAt_74 : decode cX1_lookAt 74 = .ok (.ior, 1) := by decide +kernel
theorem dX1_lookAt_75 : decode cX1_lookAt 75 = .ok (.istore 5, 2) := by decide +kernel
theorem dX1_lookAt_77 : decode cX1_lookAt 77 = .ok (.iinc 6 1, 3) := by decide +kernel
theorem dX1_lookAt_80 : decode cX1_lookAt 80 = .ok (.goto (-74), 3) := by decide +kernel
theorem dX1_lookAt_83 : decode cX1_lookAt 83 = .ok (.iload 5, 2) := by decide +kernel
theorem dX1_lookAt_85 : decode cX1_lookAt 85 = .ok (.ireturn, 1) := by decide +kernel
theorem dX2_init_0 : decode cX2_init 0 = .ok (.aload_n 0, 1) := by decide +kernel
theorem dX2_init_1 : decode cX2_init 1 = .ok (.invokespecial 3, 3) := by decide +kernel
theorem dX2_init_4 : decode cX2_init 4 = .ok (.aload_n 0, 1) := by decide +kernel
theorem dX2_init_5 : decode cX2_init 5 = .ok (.iconst 0, 1) := by decide +kernel
theorem dX2_init_6 : decode cX2_init 6 = .ok (.putfield 9, 3) := by decide +kernel
theorem dX2_init_9 : decode cX2_init 9 = .ok (.aload_n 0, 1) := by decide +kernel
theorem dX2_init_10 : decode cX2_init 10 = .ok (.iconst (-1), 1) := by decide +kernel
theorem dX2_init_11 : decode cX2_init 11 = .ok (.putfield 15, 3) := by decide +kernel
theorem dX2_init_14 : decode cX2_init 14 = .ok (.aload_n 0, 1) := by decide +kernel
theorem dX2_init_15 : decode cX2_init 15 = .ok (.iconst 0, 1) := by decide +kernel
theorem dX2_init_16 : decode cX2_init 16 = .ok (.putfield 18, 3) := by decide +kernel
theorem dX2_init_19 : decode cX2_init 19 = .ok (.aload_n 0, 1) := by decide +kernel
theorem dX2_init_20 : decode cX2_init 20 = .ok (.iconst 0, 1) := by decide +kernel
theorem dX2_init_21 : decode cX2_init 21 = .ok (.putfield 21, 3) := by decide +kernel
theorem dX2_init_24 : decode cX2_init 24 = .ok (.aload_n 0, 1) := by decide +kernel
theorem dX2_init_25 : decode cX2_init 25 = .ok (.iconst 0, 1) := by decide +kernel
theorem dX2_init_26 : decode cX2_init 26 = .ok (.putfield 24, 3) := by decide +kernel
theorem dX2_init_29 : decode cX2_init 29 = .ok (.aload_n 0, 1) := by decide +kernel
theorem dX2_init_30 : decode cX2_init 30 = .ok (.iconst 0, 1) := by decide +kernel
theorem dX2_init_31 : decode cX2_init 31 = .ok (.putfield 27, 3) := by decide +kernel
theorem dX2_init_34 : decode cX2_init 34 = .ok (.aload_n 0, 1) := by decide +kernel
theorem dX2_init_35 : decode cX2_init 35 = .ok (.iconst 0, 1) := by decide +kernel
theorem dX2_init_36 : decode cX2_init 36 = .ok (.putfield 30, 3) := by decide +kernel
theorem dX2_init_39 : decode cX2_init 39 = .ok (.aload_n 0, 1) := by decide +kernel
theorem dX2_init_40 : decode cX2_init 40 = .ok (.iconst 0, 1) := by decide +kernel
theorem dX2_init_41 : decode cX2_init 41 = .ok (.putfield 33, 3) := by decide +kernel
theorem dX2_init_44 : decode cX2_init 44 = .ok (.aload_n 0, 1) := by decide +kernel
theorem dX2_init_45 : decode cX2_init 45 = .ok (.aload_n 1, 1) := by decide +kernel
theorem dX2_init_46 : decode cX2_init 46 = .ok (.putfield 36, 3) := by decide +kernel
theorem dX2_init_49 : decode cX2_init 49 = .ok (.aload_n 0, 1) := by decide +kernel
theorem dX2_init_50 : decode cX2_init 50 = .ok (.iload_n 2, 1) := by decide +kernel
theorem dX2_init_51 : decode cX2_init 51 = .ok (.putfield 40, 3) := by decide +kernel
theorem dX2_init_54 : decode cX2_init 54 = .ok (.aload_n 0, 1) := by decide +kernel
theorem dX2_init_55 : decode cX2_init 55 = .ok (.aload_n 3, 1) := by decide +kernel
theorem dX2_init_56 : decode cX2_init 56 = .ok (.putfield 43, 3) := by decide +kernel
theorem dX2_init_59 : decode cX2_init 59 = .ok (.aload_n 0, 1) := by decide +kernel
theorem dX2_init_60 : decode cX2_init 60 = .ok (.aload 4, 2) := by decide +kernel
theorem dX2_init_62 : decode cX2_init 62 = .ok (.putfield 47, 3) := by decide +kernel
theorem dX2_init_65 : decode cX2_init 65 = .ok (.aload_n 0, 1) := by decide +kernel
theorem dX2_init_66 : decode cX2_init 66 = .ok (.aload 5, 2) := by decide +kernel
theorem dX2_init_68 : decode cX2_init 68 = .ok (.putfield 51, 3) := by decide +kernel
theorem dX2_init_71 : decode cX2_init 71 = .ok (.return_, 1) := by decide +kernel
theorem dX2_readText_0 : decode cX2_readText 0 = .ok (.aload_n 0, 1) := by decide +kernel
theorem dX2_readText_1 : decode cX2_readText 1 = .ok (.getfield 43, 3) := by decide +kernel
theorem dX2_readText_4 : decode cX2_readText 4 = .ok (.invokevirtual 55, 3) := by decide +kernel
theorem dX2_readText_7 : decode cX2_readText 7 = .ok (.aload_n 0, 1) := by decide +kernel
theorem dX2_readText_8 : decode cX2_readText 8 = .ok (.getfield 47, 3) := by decide +kernel
theorem dX2_readText_11 : decode cX2_readText 11 = .ok (.invokevirtual 60, 3) := by decide +kernel
theorem dX2_readText_14 : decode cX2_readText 14 = .ok (.aload_n 0, 1) := by decide +kernel
theorem dX2_readText_15 : decode cX2_readText 15 = .ok (.invokevirtual 63, 3) := by decide +kernel
theorem dX2_readText_18 : decode cX2_readText 18 = .ok (.iconst 0, 1) := by decide +kernel
theorem dX2_readText_19 : decode cX2_readText 19 = .ok (.istore_n 1, 1) := by decide +kernel
theorem dX2_readText_20 : decode cX2_readText 20 = .ok (.iload_n 1, 1) := by decide +kernel
theorem dX2_readText_21 : decode cX2_readText 21 = .ok (.sipush 900, 3) := by decide +kernel
theorem dX2_readText_24 : decode cX2_readText 24 = .ok (.if_icmp .ge 45, 3) := by decide +kernel
theorem dX2_readText_27 : decode cX2_readText 27 = .ok (.aload_n 0, 1) := by decide +kernel
theorem dX2_readText_28 : decode cX2_readText 28 = .ok (.getfield 24, 3) := by decide +kernel
theorem dX2_readText_31 : decode cX2_readText 31 = .ok (.ifCond .eq 38, 3) := by decide +kernel
theorem dX2_readText_34 : decode cX2_readText 34 = .ok (.aload_n 0, 1) := by decide +kernel
theorem dX2_readText_35 : decode cX2_readText 35 = .ok (.invokevirtual 66, 3) := by decide +kernel
theorem dX2_readText_38 : decode cX2_readText 38 = .ok (.ifCond .eq 10, 3) := by decide +kernel
theorem dX2_readText_41 : decode cX2_readText 41 = .ok (.aload_n 0, 1) := by decide +kernel
theorem dX2_readText_42 : decode cX2_readText 42 = .ok (.invokevirtual 70, 3) := by decide +kernel
theorem dX2_readText_45 : decode cX2_readText 45 = .ok (.ifCond .ne 4, 3) := by decide +kernel
theorem dX2_readText_48 : decode cX2_readText 48 = .ok (.return_, 1) := by decide +kernel
theorem dX2_readText_49 : decode cX2_readText 49 = .ok (.aload_n 0, 1) := by decide +kernel
theorem dX2_readText_50 : decode cX2_readText 50 = .ok (.dup, 1) := by decide +kernel
theorem dX2_readText_51 : decode cX2_readText 51 = .ok (.getfield 18, 3) := by decide +kernel
theorem dX2_readText_54 : decode cX2_readText 54 = .ok (.iconst 1, 1) := by decide +kernel
theorem dX2_readText_55 : decode cX2_readText 55 = .ok (.iadd, 1) := by decide +kernel
theorem dX2_readText_56 : decode cX2_readText 56 = .ok (.putfield 18, 3) := by decide +kernel
theorem dX2_readText_59 : decode cX2_readText 59 = .ok (.aload_n 0, 1) := by decide +kernel
theorem dX2_readText_60 : decode cX2_readText 60 = .ok (.invokevirtual 63, 3) := by decide +kernel
theorem dX2_readText_63 : decode cX2_readText 63 = .ok (.iinc 1 1, 3) := by decide +kernel
theorem dX2_readText_66 : decode cX2_readText 66 = .ok (.goto (-46), 3) := by decide +kernel
theorem dX2_readText_69 : decode cX2_readText 69 = .ok (.return_, 1) := by decide +kernel
theorem dX2_readPiece_0 : decode cX2_readPiece 0 = .ok (.aload_n 0, 1) := by decide +kernel
theorem dX2_readPiece_1 : decode cX2_readPiece 1 = .ok (.getfield 21, 3) := by decide +kernel
theorem dX2_readPiece_4 : decode cX2_readPiece 4 = .ok (.aload_n 0, 1) := by decide +kernel
theorem dX2_readPiece_5 : decode cX2_readPiece 5 = .ok (.getfield 40, 3) := by decide +kernel
theorem dX2_readPiece_8 : decode cX2_readPiece 8 = .ok (.if_icmp .ge 33, 3) := by decide +kernel
theorem dX2_readPiece_11 : decode cX2_readPiece 11 = .ok (.aload_n 0, 1) := by decide +kernel
theorem dX2_readPiece_12 : decode cX2_readPiece 12 = .ok (.getfield 36, 3) := by decide +kernel
theorem dX2_readPiece_15 : decode cX2_readPiece 15 = .ok (.getfield 73, 3) := by decide +kernel
theorem dX2_readPiece_18 : decode cX2_readPiece 18 = .ok (.aload_n 0, 1) := by decide +kernel
theorem dX2_readPiece_19 : decode cX2_readPiece 19 = .ok (.getfield 21, 3) := by decide +kernel
theorem dX2_readPiece_22 : decode cX2_readPiece 22 = .ok (.iaload, 1) := by decide +kernel
theorem dX2_readPiece_23 : decode cX2_readPiece 23 = .ok (.bipush 32, 2) := by decide +kernel
theorem dX2_readPiece_25 : decode cX2_readPiece 25 = .ok (.if_icmp .ne 16, 3) := by decide +kernel
theorem dX2_readPiece_28 : decode cX2_readPiece 28 = .ok (.aload_n 0, 1) := by decide +kernel
theorem dX2_readPiece_29 : decode cX2_readPiece 29 = .ok (.dup, 1) := by decide +kernel
theorem dX2_readPiece_30 : decode cX2_readPiece 30 = .ok (.getfield 21, 3) := by decide +kernel
theorem dX2_readPiece_33 : decode cX2_readPiece 33 = .ok (.iconst 1, 1) := by decide +kernel
theorem dX2_readPiece_34 : decode cX2_readPiece 34 = .ok (.iadd, 1) := by decide +kernel
theorem dX2_readPiece_35 : decode cX2_readPiece 35 = .ok (.putfield 21, 3) := by decide +kernel
theorem dX2_readPiece_38 : decode cX2_readPiece 38 = .ok (.goto (-38), 3) := by decide +kernel
theorem dX2_readPiece_41 : decode cX2_readPiece 41 = .ok (.aload_n 0, 1) := by decide +kernel
theorem dX2_readPiece_42 : decode cX2_readPiece 42 = .ok (.aload_n 0, 1) := by decide +kernel
theorem dX2_readPiece_43 : decode cX2_readPiece 43 = .ok (.getfield 21, 3) := by decide +kernel
theorem dX2_readPiece_46 : decode cX2_readPiece 46 = .ok (.putfield 27, 3) := by decide +kernel
theorem dX2_readPiece_49 : decode cX2_readPiece 49 = .ok (.aload_n 0, 1) := by decide +kernel
theorem dX2_readPiece_50 : decode cX2_readPiece 50 = .ok (.getfield 21, 3) := by decide +kernel
theorem dX2_readPiece_53 : decode cX2_readPiece 53 = .ok (.aload_n 0, 1) := by decide +kernel
theorem dX2_readPiece_54 : decode cX2_readPiece 54 = .ok (.getfield 40, 3) := by decide +kernel
theorem dX2_readPiece_57 : decode cX2_readPiece 57 = .ok (.if_icmp .lt 11, 3) := by decide +kernel
theorem dX2_readPiece_60 : decode cX2_readPiece 60 = .ok (.aload_n 0, 1) := by decide +kernel
theorem dX2_readPiece_61 : decode cX2_readPiece 61 = .ok (.iconst 0, 1) := by decide +kernel
theorem dX2_readPiece_62 : decode cX2_readPiece 62 = .ok (.putfield 24, 3) := by decide +kernel
theorem dX2_readPiece_65 : decode cX2_readPiece 65 = .ok (.goto 68, 3) := by decide +kernel
theorem dX2_readPiece_68 : decode cX2_readPiece 68 = .ok (.aload_n 0, 1) := by decide +kernel
theorem dX2_readPiece_69 : decode cX2_readPiece 69 = .ok (.getfield 36, 3) := by decide +kernel
theorem dX2_readPiece_72 : decode cX2_readPiece 72 = .ok (.getfield 73, 3) := by decide +kernel
theorem dX2_readPiece_75 : decode cX2_readPiece 75 = .ok (.aload_n 0, 1) := by decide +kernel
theorem dX2_readPiece_76 : decode cX2_readPiece 76 = .ok (.getfield 21, 3) := by decide +kernel
theorem dX2_readPiece_79 : decode cX2_readPiece 79 = .ok (.iaload, 1) := by decide +kernel
theorem dX2_readPiece_80 : decode cX2_readPiece 80 = .ok (.invokestatic 79, 3) := by decide +kernel
theorem dX2_readPiece_83 : decode cX2_readPiece 83 = .ok (.ifCond .eq 10, 3) := by decide +kernel
theorem dX2_readPiece_86 : decode cX2_readPiece 86 = .ok (.aload_n 0, 1) := by decide +kernel
theorem dX2_readPiece_87 : decode cX2_readPiece 87 = .ok (.invokevirtual 83, 3) := by decide +kernel
theorem dX2_readPiece_90 : decode cX2_readPiece 90 = .ok (.goto 43, 3) := by decide +kernel
theorem dX2_readPiece_93 : decode cX2_readPiece 93 = .ok (.aload_n 0, 1) := by decide +kernel
theorem dX2_readPiece_94 : decode cX2_readPiece 94 = .ok (.getfield 36, 3) := by decide +kernel
theorem dX2_readPiece_97 : decode cX2_readPiece 97 = .ok (.getfield 73, 3) := by decide +kernel
theorem dX2_readPiece_100 : decode cX2_readPiece 100 = .ok (.aload_n 0, 1) := by decide +kernel
theorem dX2_readPiece_101 : decode cX2_readPiece 101 = .ok (.getfield 21, 3) := by decide +kernel
theorem dX2_readPiece_104 : decode cX2_readPiece 104 = .ok (.iaload, 1) := by decide +kernel
theorem dX2_readPiece_105 : decode cX2_readPiece 105 = .ok (.invokestatic 86, 3) := by decide +kernel
theorem dX2_readPiece_108 : decode cX2_readPiece 108 = .ok (.ifCond .eq 10, 3) := by decide +kernel
theorem dX2_readPiece_111 : decode cX2_readPiece 111 = .ok (.aload_n 0, 1) := by decide +kernel
theorem dX2_readPiece_112 : decode cX2_readPiece 112 = .ok (.invokevirtual 89, 3) := by decide +kernel
theorem dX2_readPiece_115 : decode cX2_readPiece 115 = .ok (.goto 18, 3) := by decide +kernel
theorem dX2_readPiece_118 : decode cX2_readPiece 118 = .ok (.aload_n 0, 1) := by decide +kernel
theorem dX2_readPiece_119 : decode cX2_readPiece 119 = .ok (.iconst 3, 1) := by decide +kernel
theorem dX2_readPiece_120 : decode cX2_readPiece 120 = .ok (.putfield 24, 3) := by decide +kernel
theorem dX2_readPiece_123 : decode cX2_readPiece 123 = .ok (.aload_n 0, 1) := by decide +kernel
theorem dX2_readPiece_124 : decode cX2_readPiece 124 = .ok (.dup, 1) := by decide +kernel
theorem dX2_readPiece_125 : decode cX2_readPiece 125 = .ok (.getfield 21, 3) := by decide +kernel
theorem dX2_readPiece_128 : decode cX2_readPiece 128 = .ok (.iconst 1, 1) := by decide +kernel
theorem dX2_readPiece_129 : decode cX2_readPiece 129 = .ok (.iadd, 1) := by decide +kernel
theorem dX2_readPiece_130 : decode cX2_readPiece 130 = .ok (.putfield 21, 3) := by decide +kernel
theorem dX2_readPiece_133 : decode cX2_readPiece 133 = .ok (.aload_n 0, 1) := by decide +kernel
theorem dX2_readPiece_134 : decode cX2_readPiece 134 = .ok (.aload_n 0, 1) := by decide +kernel
theorem dX2_readPiece_135 : decode cX2_readPiece 135 = .ok (.getfield 21, 3) := by decide +kernel
theorem dX2_readPiece_138 : decode cX2_readPiece 138 = .ok (.aload_n 0, 1) := by decide +kernel
theorem dX2_readPiece_139 : decode cX2_readPiece 139 = .ok (.getfield 27, 3) := by decide +kernel
theorem dX2_readPiece_142 : decode cX2_readPiece 142 = .ok (.isub, 1) := by decide +kernel
theorem dX2_readPiece_143 : decode cX2_readPiece 143 = .ok (.putfield 30, 3) := by decide +kernel
theorem dX2_readPiece_146 : decode cX2_readPiece 146 = .ok (.return_, 1) := by decide +kernel
theorem dX2_readDigits_0 : decode cX2_readDigits 0 = .ok (.aload_n 0, 1) := by decide +kernel
theorem dX2_readDigits_1 : decode cX2_readDigits 1 = .ok (.iconst 1, 1) := by decide +kernel
theorem dX2_readDigits_2 : decode cX2_readDigits 2 = .ok (.putfield 24, 3) := by decide +kernel
theorem dX2_readDigits_5 : decode cX2_readDigits 5 = .ok (.aload_n 0, 1) := by decide +kernel
theorem dX2_readDigits_6 : decode cX2_readDigits 6 = .ok (.iconst 0, 1) := by decide +kernel
theorem dX2_readDigits_7 : decode cX2_readDigits 7 = .ok (.putfield 33, 3) := by decide +kernel
theorem dX2_readDigits_10 : decode cX2_readDigits 10 = .ok (.aload_n 0, 1) := by decide +kernel
theorem dX2_readDigits_11 : decode cX2_readDigits 11 = .ok (.getfield 21, 3) := by decide +kernel
theorem dX2_readDigits_14 : decode cX2_readDigits 14 = .ok (.aload_n 0, 1) := by decide +kernel
theorem dX2_readDigits_15 : decode cX2_readDigits 15 = .ok (.getfield 40, 3) := by decide +kernel
theorem dX2_readDigits_18 : decode cX2_readDigits 18 = .ok (.if_icmp .ge 88, 3) := by decide +kernel
theorem dX2_readDigits_21 : decode cX2_readDigits 21 = .ok (.aload_n 0, 1) := by decide +kernel
theorem dX2_readDigits_22 : decode cX2_readDigits 22 = .ok (.getfield 36, 3) := by decide +kernel
theorem dX2_readDigits_25 : decode cX2_readDigits 25 = .ok (.getfield 73, 3) := by decide +kernel
theorem dX2_readDigits_28 : decode cX2_readDigits 28 = .ok (.aload_n 0, 1) := by decide +kernel
theorem dX2_readDigits_29 : decode cX2_readDigits 29 = .ok (.getfield 21, 3) := by decide +kernel
theorem dX2_readDigits_32 : decode cX2_readDigits 32 = .ok (.iaload, 1) := by decide +kernel
theorem dX2_readDigits_33 : decode cX2_readDigits 33 = .ok (.invokestatic 79, 3) := by decide +kernel
theorem dX2_readDigits_36 : decode cX2_readDigits 36 = .ok (.ifCond .eq 70, 3) := by decide +kernel
theorem dX2_readDigits_39 : decode cX2_readDigits 39 = .ok (.aload_n 0, 1) := by decide +kernel
theorem dX2_readDigits_40 : decode cX2_readDigits 40 = .ok (.getfield 21, 3) := by decide +kernel
theorem dX2_readDigits_43 : decode cX2_readDigits 43 = .ok (.aload_n 0, 1) := by decide +kernel
theorem dX2_readDigits_44 : decode cX2_readDigits 44 = .ok (.getfield 27, 3) := by decide +kernel
theorem dX2_readDigits_47 : decode cX2_readDigits 47 = .ok (.isub, 1) := by decide +kernel
theorem dX2_readDigits_48 : decode cX2_readDigits 48 = .ok (.iconst 4, 1) := by decide +kernel
theorem dX2_readDigits_49 : decode cX2_readDigits 49 = .ok (.if_icmp .lt 7, 3) := by decide +kernel
theorem dX2_readDigits_52 : decode cX2_readDigits 52 = .ok (.iconst 1, 1) := by decide +kernel
theorem dX2_readDigits_53 : decode cX2_readDigits 53 = .ok (.goto 4, 3) := by decide +kernel
theorem dX2_readDigits_56 : decode cX2_readDigits 56 = .ok (.iconst 0, 1) := by decide +kernel
theorem dX2_readDigits_57 : decode cX2_readDigits 57 = .ok (.istore_n 1, 1) := by decide +kernel
theorem dX2_readDigits_58 : decode cX2_readDigits 58 = .ok (.aload_n 0, 1) := by decide +kernel
theorem dX2_readDigits_59 : decode cX2_readDigits 59 = .ok (.iload_n 1, 1) := by decide +kernel
theorem dX2_readDigits_60 : decode cX2_readDigits 60 = .ok (.ifCond .eq 7, 3) := by decide +kernel
theorem dX2_readDigits_63 : decode cX2_readDigits 63 = .ok (.iconst (-1), 1) := by decide +kernel
theorem dX2_readDigits_64 : decode cX2_readDigits 64 = .ok (.goto 26, 3) := by decide +kernel
theorem dX2_readDigits_67 : decode cX2_readDigits 67 = .ok (.bipush 10, 2) := by decide +kernel
theorem dX2_readDigits_69 : decode cX2_readDigits 69 = .ok (.aload_n 0, 1) := by decide +kernel
theorem dX2_readDigits_70 : decode cX2_readDigits 70 = .ok (.getfield 33, 3) := by decide +kernel
theorem dX2_readDigits_73 : decode cX2_readDigits 73 = .ok (.imul, 1) := by decide +kernel
theorem dX2_readDigits_74 : decode cX2_readDigits 74 = .ok (.aload_n 0, 1) := by decide +kernel
theorem dX2_readDigits_75 : decode cX2_readDigits 75 = .ok (.getfield 36, 3) := by decide +kernel
theorem dX2_readDigits_78 : decode cX2_readDigits 78 = .ok (.getfield 73, 3) := by decide +kernel
theorem dX2_readDigits_81 : decode cX2_readDigits 81 = .ok (.aload_n 0, 1) := by decide +kernel
theorem dX2_readDigits_82 : decode cX2_readDigits 82 = .ok (.getfield 21, 3) := by decide +kernel
theorem dX2_readDigits_85 : decode cX2_readDigits 85 = .ok (.iaload, 1) := by decide +kernel
theorem dX2_readDigits_86 : decode cX2_readDigits 86 = .ok (.iadd, 1) := by decide +kernel
theorem dX2_readDigits_87 : decode cX2_readDigits 87 = .ok (.bipush 48, 2) := by decide +kernel
theorem dX2_readDigits_89 : decode cX2_readDigits 89 = .ok (.isub, 1) := by decide +kernel
theorem dX2_readDigits_90 : decode cX2_readDigits 90 = .ok (.putfield 33, 3) := by decide +kernel
theorem dX2_readDigits_93 : decode cX2_readDigits 93 = .ok (.aload_n 0, 1) := by decide +kernel
theorem dX2_readDigits_94 : decode cX2_readDigits 94 = .ok (.dup, 1) := by decide +kernel
theorem dX2_readDigits_95 : decode cX2_readDigits 95 = .ok (.getfield 21, 3) := by decide +kernel
theorem dX2_readDigits_98 : decode cX2_readDigits 98 = .ok (.iconst 1, 1) := by decide +kernel
theorem dX2_readDigits_99 : decode cX2_readDigits 99 = .ok (.iadd, 1) := by decide +kernel
theorem dX2_readDigits_100 : decode cX2_readDigits 100 = .ok (.putfield 21, 3) := by decide +kernel
theorem dX2_readDigits_103 : decode cX2_readDigits 103 = .ok (.goto (-93), 3) := by decide +kernel
theorem dX2_readDigits_106 : decode cX2_readDigits 106 = .ok (.return_, 1) := by decide +kernel
theorem dX2_readSmall_0 : decode cX2_readSmall 0 = .ok (.aload_n 0, 1) := by decide +kernel
theorem dX2_readSmall_1 : decode cX2_readSmall 1 = .ok (.iconst 2, 1) := by decide +kernel
theorem dX2_readSmall_2 : decode cX2_readSmall 2 = .ok (.putfield 24, 3) := by decide +kernel
theorem dX2_readSmall_5 : decode cX2_readSmall 5 = .ok (.aload_n 0, 1) := by decide +kernel
theorem dX2_readSmall_6 : decode cX2_readSmall 6 = .ok (.getfield 21, 3) := by decide +kernel
theorem dX2_readSmall_9 : decode cX2_readSmall 9 = .ok (.aload_n 0, 1) := by decide +kernel
theorem dX2_readSmall_10 : decode cX2_readSmall 10 = .ok (.getfield 40, 3) := by decide +kernel
theorem dX2_readSmall_13 : decode cX2_readSmall 13 = .ok (.if_icmp .ge 34, 3) := by decide +kernel
theorem dX2_readSmall_16 : decode cX2_readSmall 16 = .ok (.aload_n 0, 1) := by decide +kernel
theorem dX2_readSmall_17 : decode cX2_readSmall 17 = .ok (.getfield 36, 3) := by decide +kernel
theorem dX2_readSmall_20 : decode cX2_readSmall 20 = .ok (.getfield 73, 3) := by decide +kernel
theorem dX2_readSmall_23 : decode cX2_readSmall 23 = .ok (.aload_n 0, 1) := by decide +kernel
theorem dX2_readSmall_24 : decode cX2_readSmall 24 = .ok (.getfield 21, 3) := by decide +kernel
theorem dX2_readSmall_27 : decode cX2_readSmall 27 = .ok (.iaload, 1) := by decide +kernel
theorem dX2_readSmall_28 : decode cX2_readSmall 28 = .ok (.invokestatic 86, 3) := by decide +kernel
theorem dX2_readSmall_31 : decode cX2_readSmall 31 = .ok (.ifCond .eq 16, 3) := by decide +kernel
theorem dX2_readSmall_34 : decode cX2_readSmall 34 = .ok (.aload_n 0, 1) := by decide +kernel
theorem dX2_readSmall_35 : decode cX2_readSmall 35 = .ok (.dup, 1) := by decide +kernel
theorem dX2_readSmall_36 : decode cX2_readSmall 36 = .ok (.getfield 21, 3) := by decide +kernel
theorem dX2_readSmall_39 : decode cX2_readSmall 39 = .ok (.iconst 1, 1) := by decide +kernel
theorem dX2_readSmall_40 : decode cX2_readSmall 40 = .ok (.iadd, 1) := by decide +kernel
theorem dX2_readSmall_41 : decode cX2_readSmall 41 = .ok (.putfield 21, 3) := by decide +kernel
theorem dX2_readSmall_44 : decode cX2_readSmall 44 = .ok (.goto (-39), 3) := by decide +kernel
theorem dX2_readSmall_47 : decode cX2_readSmall 47 = .ok (.return_, 1) := by decide +kernel
theorem dX2_isDigit_0 : decode cX2_isDigit 0 = .ok (.iload_n 0, 1) := by decide +kernel
theorem dX2_isDigit_1 : decode cX2_isDigit 1 = .ok (.bipush 48, 2) := by decide +kernel
theorem dX2_isDigit_3 : decode cX2_isDigit 3 = .ok (.if_icmp .lt 13, 3) := by decide +kernel
theorem dX2_isDigit_6 : decode cX2_isDigit 6 = .ok (.iload_n 0, 1) := by decide +kernel
theorem dX2_isDigit_7 : decode cX2_isDigit 7 = .ok (.bipush 57, 2) := by decide +kernel
theorem dX2_isDigit_9 : decode cX2_isDigit 9 = .ok (.if_icmp .gt 7, 3) := by decide +kernel
theorem dX2_isDigit_12 : decode cX2_isDigit 12 = .ok (.iconst 1, 1) := by decide +kernel
theorem dX2_isDigit_13 : decode cX2_isDigit 13 = .ok (.goto 4, 3) := by decide +kernel
theorem dX2_isDigit_16 : decode cX2_isDigit 16 = .ok (.iconst 0, 1) := by decide +kernel
theorem dX2_isDigit_17 : decode cX2_isDigit 17 = .ok (.ireturn, 1) := by decide +kernel
theorem dX2_isSmall_0 : decode cX2_isSmall 0 = .ok (.iload_n 0, 1) := by decide +kernel
theorem dX2_isSmall_1 : decode cX2_isSmall 1 = .ok (.bipush 97, 2) := by decide +kernel
theorem dX2_isSmall_3 : decode cX2_isSmall 3 = .ok (.if_icmp .lt 13, 3) := by decide +kernel
theorem dX2_isSmall_6 : decode cX2_isSmall 6 = .ok (.iload_n 0, 1) := by decide +kernel
theorem dX2_isSmall_7 : decode cX2_isSmall 7 = .ok (.bipush 122, 2) := by decide +kernel
theorem dX2_isSmall_9 : decode cX2_isSmall 9 = .ok (.if_icmp .gt 7, 3) := by decide +kernel
theorem dX2_isSmall_12 : decode cX2_isSmall 12 = .ok (.iconst 1, 1) := by decide +kernel
theorem dX2_isSmall_13 : decode cX2_isSmall 13 = .ok (.goto 4, 3) := by decide +kernel
theorem dX2_isSmall_16 : decode cX2_isSmall 16 = .ok (.iconst 0, 1) := by decide +kernel
theorem dX2_isSmall_17 : decode cX2_isSmall 17 = .ok (.ireturn, 1) := by decide +kernel
theorem dX2_isNamed_0 : decode cX2_isNamed 0 = .ok (.aload_n 0, 1) := by decide +kernel
theorem dX2_isNamed_1 : decode cX2_isNamed 1 = .ok (.getfield 24, 3) := by decide +kernel
theorem dX2_isNamed_4 : decode cX2_isNamed 4 = .ok (.iconst 2, 1) := by decide +kernel
theorem dX2_isNamed_5 : decode cX2_isNamed 5 = .ok (.if_icmp .ne 14, 3) := by decide +kernel
theorem dX2_isNamed_8 : decode cX2_isNamed 8 = .ok (.aload_n 0, 1) := by decide +kernel
theorem dX2_isNamed_9 : decode cX2_isNamed 9 = .ok (.getfield 30, 3) := by decide +kernel
theorem dX2_isNamed_12 : decode cX2_isNamed 12 = .ok (.aload_n 1, 1) := by decide +kernel
theorem dX2_isNamed_13 : decode cX2_isNamed 13 = .ok (.invokevirtual 92, 3) := by decide +kernel
theorem dX2_isNamed_16 : decode cX2_isNamed 16 = .ok (.if_icmp .eq 5, 3) := by decide +kernel
theorem dX2_isNamed_19 : decode cX2_isNamed 19 = .ok (.iconst 0, 1) := by decide +kernel
theorem dX2_isNamed_20 : decode cX2_isNamed 20 = .ok (.ireturn, 1) := by decide +kernel
theorem dX2_isNamed_21 : decode cX2_isNamed 21 = .ok (.iconst 0, 1) := by decide +kernel
theorem dX2_isNamed_22 : decode cX2_isNamed 22 = .ok (.istore_n 2, 1) := by decide +kernel
theorem dX2_isNamed_23 : decode cX2_isNamed 23 = .ok (.iload_n 2, 1) := by decide +kernel
theorem dX2_isNamed_24 : decode cX2_isNamed 24 = .ok (.aload_n 0, 1) := by decide +kernel
theorem dX2_isNamed_25 : decode cX2_isNamed 25 = .ok (.getfield 30, 3) := by decide +kernel
theorem dX2_isNamed_28 : decode cX2_isNamed 28 = .ok (.if_icmp .ge 33, 3) := by decide +kernel
theorem dX2_isNamed_31 : decode cX2_isNamed 31 = .ok (.aload_n 0, 1) := by decide +kernel
theorem dX2_isNamed_32 : decode cX2_isNamed 32 = .ok (.getfield 36, 3) := by decide +kernel
theorem dX2_isNamed_35 : decode cX2_isNamed 35 = .ok (.getfield 73, 3) := by decide +kernel
theorem dX2_isNamed_38 : decode cX2_isNamed 38 = .ok (.aload_n 0, 1) := by decide +kernel
theorem dX2_isNamed_39 : decode cX2_isNamed 39 = .ok (.getfield 27, 3) := by decide +kernel
theorem dX2_isNamed_42 : decode cX2_isNamed 42 = .ok (.iload_n 2, 1) := by decide +kernel
theorem dX2_isNamed_43 : decode cX2_isNamed 43 = .ok (.iadd, 1) := by decide +kernel
theorem dX2_isNamed_44 : decode cX2_isNamed 44 = .ok (.iaload, 1) := by decide +kernel
theorem dX2_isNamed_45 : decode cX2_isNamed 45 = .ok (.aload_n 1, 1) := by decide +kernel
theorem dX2_isNamed_46 : decode cX2_isNamed 46 = .ok (.iload_n 2, 1) := by decide +kernel
theorem dX2_isNamed_47 : decode cX2_isNamed 47 = .ok (.invokevirtual 98, 3) := by decide +kernel
theorem dX2_isNamed_50 : decode cX2_isNamed 50 = .ok (.if_icmp .eq 5, 3) := by decide +kernel
theorem dX2_isNamed_53 : decode cX2_isNamed 53 = .ok (.iconst 0, 1) := by decide +kernel
theorem dX2_isNamed_54 : decode cX2_isNamed 54 = .ok (.ireturn, 1) := by decide +kernel
theorem dX2_isNamed_55 : decode cX2_isNamed 55 = .ok (.iinc 2 1, 3) := by decide +kernel
theorem dX2_isNamed_58 : decode cX2_isNamed 58 = .ok (.goto (-35), 3) := by decide +kernel
theorem dX2_isNamed_61 : decode cX2_isNamed 61 = .ok (.iconst 1, 1) := by decide +kernel
theorem dX2_isNamed_62 : decode cX2_isNamed 62 = .ok (.ireturn, 1) := by decide +kernel
theorem dX2_refuse_0 : decode cX2_refuse 0 = .ok (.aload_n 0, 1) := by decide +kernel
theorem dX2_refuse_1 : decode cX2_refuse 1 = .ok (.iload_n 1, 1) := by decide +kernel
theorem dX2_refuse_2 : decode cX2_refuse 2 = .ok (.putfield 9, 3) := by decide +kernel
theorem dX2_refuse_5 : decode cX2_refuse 5 = .ok (.aload_n 0, 1) := by decide +kernel
theorem dX2_refuse_6 : decode cX2_refuse 6 = .ok (.iload_n 2, 1) := by decide +kernel
theorem dX2_refuse_7 : decode cX2_refuse 7 = .ok (.putfield 15, 3) := by decide +kernel
theorem dX2_refuse_10 : decode cX2_refuse 10 = .ok (.iconst 0, 1) := by decide +kernel
theorem dX2_refuse_11 : decode cX2_refuse 11 = .ok (.ireturn, 1) := by decide +kernel
theorem dX2_readLine_0 : decode cX2_readLine 0 = .ok (.aload_n 0, 1) := by decide +kernel
theorem dX2_readLine_1 : decode cX2_readLine 1 = .ok (.ldc 102, 2) := by decide +kernel
theorem dX2_readLine_3 : decode cX2_readLine 3 = .ok (.invokevirtual 103, 3) := by decide +kernel
theorem dX2_readLine_6 : decode cX2_readLine 6 = .ok (.ifCond .eq 8, 3) := by decide +kernel
theorem dX2_readLine_9 : decode cX2_readLine 9 = .ok (.aload_n 0, 1) := by decide +kernel
theorem dX2_readLine_10 : decode cX2_readLine 10 = .ok (.invokevirtual 107, 3) := by decide +kernel
theorem dX2_readLine_13 : decode cX2_readLine 13 = .ok (.ireturn, 1) := by decide +kernel
theorem dX2_readLine_14 : decode cX2_readLine 14 = .ok (.aload_n 0, 1) := by decide +kernel
theorem dX2_readLine_15 : decode cX2_readLine 15 = .ok (.ldc 110, 2) := by decide +kernel
theorem dX2_readLine_17 : decode cX2_readLine 17 = .ok (.invokevirtual 103, 3) := by decide +kernel
theorem dX2_readLine_20 : decode cX2_readLine 20 = .ok (.ifCond .eq 8, 3) := by decide +kernel
theorem dX2_readLine_23 : decode cX2_readLine 23 = .ok (.aload_n 0, 1) := by decide +kernel
theorem dX2_readLine_24 : decode cX2_readLine 24 = .ok (.invokevirtual 112, 3) := by decide +kernel
theorem dX2_readLine_27 : decode cX2_readLine 27 = .ok (.ireturn, 1) := by decide +kernel
theorem dX2_readLine_28 : decode cX2_readLine 28 = .ok (.aload_n 0, 1) := by decide +kernel
theorem dX2_readLine_29 : decode cX2_readLine 29 = .ok (.ldc 115, 2) := by decide +kernel
theorem dX2_readLine_31 : decode cX2_readLine 31 = .ok (.invokevirtual 103, 3) := by decide +kernel
theorem dX2_readLine_34 : decode cX2_readLine 34 = .ok (.ifCond .eq 8, 3) := by decide +kernel
theorem dX2_readLine_37 : decode cX2_readLine 37 = .ok (.aload_n 0, 1) := by decide +kernel
theorem dX2_readLine_38 : decode cX2_readLine 38 = .ok (.invokevirtual 117, 3) := by decide +kernel
theorem dX2_readLine_41 : decode cX2_readLine 41 = .ok (.ireturn, 1) := by decide +kernel
theorem dX2_readLine_42 : decode cX2_readLine 42 = .ok (.aload_n 0, 1) := by decide +kernel
theorem dX2_readLine_43 : decode cX2_readLine 43 = .ok (.ldc 120, 2) := by decide +kernel
theorem dX2_readLine_45 : decode cX2_readLine 45 = .ok (.invokevirtual 103, 3) := by decide +kernel
theorem dX2_readLine_48 : decode cX2_readLine 48 = .ok (.ifCond .eq 8, 3) := by decide +kernel
theorem dX2_readLine_51 : decode cX2_readLine 51 = .ok (.aload_n 0, 1) := by decide +kernel
theorem dX2_readLine_52 : decode cX2_readLine 52 = .ok (.invokevirtual 122, 3) := by decide +kernel
theorem dX2_readLine_55 : decode cX2_readLine 55 = .ok (.ireturn, 1) := by decide +kernel
theorem dX2_readLine_56 : decode cX2_readLine 56 = .ok (.aload_n 0, 1) := by decide +kernel
theorem dX2_readLine_57 : decode cX2_readLine 57 = .ok (.ldc 125, 2) := by decide +kernel
theorem dX2_readLine_59 : decode cX2_readLine 59 = .ok (.invokevirtual 103, 3) := by decide +kernel
theorem dX2_readLine_62 : decode cX2_readLine 62 = .ok (.ifCond .eq 8, 3) := by decide +kernel
theorem dX2_readLine_65 : decode cX2_readLine 65 = .ok (.aload_n 0, 1) := by decide +kernel
theorem dX2_readLine_66 : decode cX2_readLine 66 = .ok (.invokevirtual 127, 3) := by decide +kernel
theorem dX2_readLine_69 : decode cX2_readLine 69 = .ok (.ireturn, 1) := by decide +kernel
theorem dX2_readLine_70 : decode cX2_readLine 70 = .ok (.aload_n 0, 1) := by decide +kernel
theorem dX2_readLine_71 : decode cX2_readLine 71 = .ok (.ldc 130, 2) := by decide +kernel
theorem dX2_readLine_73 : decode cX2_readLine 73 = .ok (.invokevirtual 103, 3) := by decide +kernel
theorem dX2_readLine_76 : decode cX2_readLine 76 = .ok (.ifCond .eq 8, 3) := by decide +kernel
theorem dX2_readLine_79 : decode cX2_readLine 79 = .ok (.aload_n 0, 1) := by decide +kernel
theorem dX2_readLine_80 : decode cX2_readLine 80 = .ok (.invokevirtual 132, 3) := by decide +kernel
theorem dX2_readLine_83 : decode cX2_readLine 83 = .ok (.ireturn, 1) := by decide +kernel
theorem dX2_readLine_84 : decode cX2_readLine 84 = .ok (.aload_n 0, 1) := by decide +kernel
theorem dX2_readLine_85 : decode cX2_readLine 85 = .ok (.ldc 135, 2) := by decide +kernel
theorem dX2_readLine_87 : decode cX2_readLine 87 = .ok (.invokevirtual 103, 3) := by decide +kernel
theorem dX2_readLine_90 : decode cX2_readLine 90 = .ok (.ifCond .eq 8, 3) := by decide +kernel
theorem dX2_readLine_93 : decode cX2_readLine 93 = .ok (.aload_n 0, 1) := by decide +kernel
theorem dX2_readLine_94 : decode cX2_readLine 94 = .ok (.invokevirtual 137, 3) := by decide +kernel
theorem dX2_readLine_97 : decode cX2_readLine 97 = .ok (.ireturn, 1) := by decide +kernel
theorem dX2_readLine_98 : decode cX2_readLine 98 = .ok (.aload_n 0, 1) := by decide +kernel
theorem dX2_readLine_99 : decode cX2_readLine 99 = .ok (.ldc 140, 2) := by decide +kernel
theorem dX2_readLine_101 : decode cX2_readLine 101 = .ok (.invokevirtual 103, 3) := by decide +kernel
theorem dX2_readLine_104 : decode cX2_readLine 104 = .ok (.ifCond .eq 8, 3) := by decide +kernel
theorem dX2_readLine_107 : decode cX2_readLine 107 = .ok (.aload_n 0, 1) := by decide +kernel
theorem dX2_readLine_108 : decode cX2_readLine 108 = .ok (.invokevirtual 142, 3) := by decide +kernel
theorem dX2_readLine_111 : decode cX2_readLine 111 = .ok (.ireturn, 1) := by decide +kernel
theorem dX2_readLine_112 : decode cX2_readLine 112 = .ok (.aload_n 0, 1) := by decide +kernel
theorem dX2_readLine_113 : decode cX2_readLine 113 = .ok (.iconst 1, 1) := by decide +kernel
theorem dX2_readLine_114 : decode cX2_readLine 114 = .ok (.aload_n 0, 1) := by decide +kernel
theorem dX2_readLine_115 : decode cX2_readLine 115 = .ok (.getfield 27, 3) := by decide +kernel
theorem dX2_readLine_118 : decode cX2_readLine 118 = .ok (.invokevirtual 145, 3) := by decide +kernel
theorem dX2_readLine_121 : decode cX2_readLine 121 = .ok (.ireturn, 1) := by decide +kernel
theorem dX2_readSemicolon_0 : decode cX2_readSemicolon 0 = .ok (.aload_n 0, 1) := by decide +kernel
theorem dX2_readSemicolon_1 : decode cX2_readSemicolon 1 = .ok (.invokevirtual 63, 3) := by decide +kernel
theorem dX2_readSemicolon_4 : decode cX2_readSemicolon 4 = .ok (.aload_n 0, 1) := by decide +kernel
theorem dX2_readSemicolon_5 : decode cX2_readSemicolon 5 = .ok (.getfield 24, 3) := by decide +kernel
theorem dX2_readSemicolon_8 : decode cX2_readSemicolon 8 = .ok (.iconst 3, 1) := by decide +kernel
theorem dX2_readSemicolon_9 : decode cX2_readSemicolon 9 = .ok (.if_icmp .ne 24, 3) := by decide +kernel
theorem dX2_readSemicolon_12 : decode cX2_readSemicolon 12 = .ok (.aload_n 0, 1) := by decide +kernel
theorem dX2_readSemicolon_13 : decode cX2_readSemicolon 13 = .ok (.getfield 36, 3) := by decide +kernel
theorem dX2_readSemicolon_16 : decode cX2_readSemicolon 16 = .ok (.getfield 73, 3) := by decide +kernel
theorem dX2_readSemicolon_19 : decode cX2_readSemicolon 19 = .ok (.aload_n 0, 1) := by decide +kernel
theorem dX2_readSemicolon_20 : decode cX2_readSemicolon 20 = .ok (.getfield 27, 3) := by decide +kernel
theorem dX2_readSemicolon_23 : decode cX2_readSemicolon 23 = .ok (.iaload, 1) := by decide +kernel
theorem dX2_readSemicolon_24 : decode cX2_readSemicolon 24 = .ok (.bipush 59, 2) := by decide +kernel
theorem dX2_readSemicolon_26 : decode cX2_readSemicolon 26 = .ok (.if_icmp .ne 7, 3) := by decide +kernel
theorem dX2_readSemicolon_29 : decode cX2_readSemicolon 29 = .ok (.iconst 1, 1) := by decide +kernel
theorem dX2_readSemicolon_30 : decode cX2_readSemicolon 30 = .ok (.goto 4, 3) := by decide +kernel
theorem dX2_readSemicolon_33 : decode cX2_readSemicolon 33 = .ok (.iconst 0, 1) := by decide +kernel
theorem dX2_readSemicolon_34 : decode cX2_readSemicolon 34 = .ok (.istore_n 1, 1) := by decide +kernel
theorem dX2_readSemicolon_35 : decode cX2_readSemicolon 35 = .ok (.iload_n 1, 1) := by decide +kernel
theorem dX2_readSemicolon_36 : decode cX2_readSemicolon 36 = .ok (.ifCond .ne 15, 3) := by decide +kernel
theorem dX2_readSemicolon_39 : decode cX2_readSemicolon 39 = .ok (.aload_n 0, 1) := by decide +kernel
theorem dX2_readSemicolon_40 : decode cX2_readSemicolon 40 = .ok (.iconst 1, 1) := by decide +kernel
theorem dX2_readSemicolon_41 : decode cX2_readSemicolon 41 = .ok (.aload_n 0, 1) := by decide +kernel
theorem dX2_readSemicolon_42 : decode cX2_readSemicolon 42 = .ok (.getfield 27, 3) := by decide +kernel
theorem dX2_readSemicolon_45 : decode cX2_readSemicolon 45 = .ok (.invokevirtual 145, 3) := by decide +kernel
theorem dX2_readSemicolon_48 : decode cX2_readSemicolon 48 = .ok (.ifCond .eq 7, 3) := by decide +kernel
theorem dX2_readSemicolon_51 : decode cX2_readSemicolon 51 = .ok (.iconst 1, 1) := by decide +kernel
theorem dX2_readSemicolon_52 : decode cX2_readSemicolon 52 = .ok (.goto 4, 3) := by decide +kernel
theorem dX2_readSemicolon_55 : decode cX2_readSemicolon 55 = .ok (.iconst 0, 1) := by decide +kernel
theorem dX2_readSemicolon_56 : decode cX2_readSemicolon 56 = .ok (.ireturn, 1) := by decide +kernel
theorem dX2_readNumber_0 : decode cX2_readNumber 0 = .ok (.aload_n 0, 1) := by decide +kernel
theorem dX2_readNumber_1 : decode cX2_readNumber 1 = .ok (.invokevirtual 63, 3) := by decide +kernel
theorem dX2_readNumber_4 : decode cX2_readNumber 4 = .ok (.aload_n 0, 1) := by decide +kernel
theorem dX2_readNumber_5 : decode cX2_readNumber 5 = .ok (.getfield 24, 3) := by decide +kernel
theorem dX2_readNumber_8 : decode cX2_readNumber 8 = .ok (.iconst 1, 1) := by decide +kernel
theorem dX2_readNumber_9 : decode cX2_readNumber 9 = .ok (.if_icmp .eq 13, 3) := by decide +kernel
theorem dX2_readNumber_12 : decode cX2_readNumber 12 = .ok (.aload_n 0, 1) := by decide +kernel
theorem dX2_readNumber_13 : decode cX2_readNumber 13 = .ok (.iconst 1, 1) := by decide +kernel
theorem dX2_readNumber_14 : decode cX2_readNumber 14 = .ok (.aload_n 0, 1) := by decide +kernel
theorem dX2_readNumber_15 : decode cX2_readNumber 15 = .ok (.getfield 27, 3) := by decide +kernel
theorem dX2_readNumber_18 : decode cX2_readNumber 18 = .ok (.invokevirtual 145, 3) := by decide +kernel
theorem dX2_readNumber_21 : decode cX2_readNumber 21 = .ok (.ireturn, 1) := by decide +kernel
theorem dX2_readNumber_22 : decode cX2_readNumber 22 = .ok (.aload_n 0, 1) := by decide +kernel
theorem dX2_readNumber_23 : decode cX2_readNumber 23 = .ok (.getfield 33, 3) := by decide +kernel
theorem dX2_readNumber_26 : decode cX2_readNumber 26 = .ok (.iload_n 1, 1) := by decide +kernel
theorem dX2_readNumber_27 : decode cX2_readNumber 27 = .ok (.if_icmp .lt 15, 3) := by decide +kernel
theorem dX2_readNumber_30 : decode cX2_readNumber 30 = .ok (.aload_n 0, 1) := by decide +kernel
theorem dX2_readNumber_31 : decode cX2_readNumber 31 = .ok (.getfield 33, 3) := by decide +kernel
theorem dX2_readNumber_34 : decode cX2_readNumber 34 = .ok (.iload_n 2, 1) := by decide +kernel
theorem dX2_readNumber_35 : decode cX2_readNumber 35 = .ok (.if_icmp .gt 7, 3) := by decide +kernel
theorem dX2_readNumber_38 : decode cX2_readNumber 38 = .ok (.iconst 1, 1) := by decide +kernel
theorem dX2_readNumber_39 : decode cX2_readNumber 39 = .ok (.goto 4, 3) := by decide +kernel
theorem dX2_readNumber_42 : decode cX2_readNumber 42 = .ok (.iconst 0, 1) := by decide +kernel
theorem dX2_readNumber_43 : decode cX2_readNumber 43 = .ok (.istore_n 3, 1) := by decide +kernel
theorem dX2_readNumber_44 : decode cX2_readNumber 44 = .ok (.iload_n 3, 1) := by decide +kernel
theorem dX2_readNumber_45 : decode cX2_readNumber 45 = .ok (.ifCond .ne 15, 3) := by decide +kernel
theorem dX2_readNumber_48 : decode cX2_readNumber 48 = .ok (.aload_n 0, 1) := by decide +kernel
theorem dX2_readNumber_49 : decode cX2_readNumber 49 = .ok (.iconst 2, 1) := by decide +kernel
theorem dX2_readNumber_50 : decode cX2_readNumber 50 = .ok (.aload_n 0, 1) := by decide +kernel
theorem dX2_readNumber_51 : decode cX2_readNumber 51 = .ok (.getfield 27, 3) := by decide +kernel
theorem dX2_readNumber_54 : decode cX2_readNumber 54 = .ok (.invokevirtual 145, 3) := by decide +kernel
theorem dX2_readNumber_57 : decode cX2_readNumber 57 = .ok (.ifCond .eq 7, 3) := by decide +kernel
theorem dX2_readNumber_60 : decode cX2_readNumber 60 = .ok (.iconst 1, 1) := by decide +kernel
theorem dX2_readNumber_61 : decode cX2_readNumber 61 = .ok (.goto 4, 3) := by decide +kernel
theorem dX2_readNumber_64 : decode cX2_readNumber 64 = .ok (.iconst 0, 1) := by decide +kernel
theorem dX2_readNumber_65 : decode cX2_readNumber 65 = .ok (.ireturn, 1) := by decide +kernel
theorem dX2_readPage_0 : decode cX2_readPage 0 = .ok (.aload_n 0, 1) := by decide +kernel
theorem dX2_readPage_1 : decode cX2_readPage 1 = .ok (.getfield 18, 3) := by decide +kernel
theorem dX2_readPage_4 : decode cX2_readPage 4 = .ok (.ifCond .le 13, 3) := by decide +kernel
theorem dX2_readPage_7 : decode cX2_readPage 7 = .ok (.aload_n 0, 1) := by decide +kernel
theorem dX2_readPage_8 : decode cX2_readPage 8 = .ok (.iconst 1, 1) := by decide +kernel
theorem dX2_readPage_9 : decode cX2_readPage 9 = .ok (.aload_n 0, 1) := by decide +kernel
theorem dX2_readPage_10 : decode cX2_readPage 10 = .ok (.getfield 27, 3) := by decide +kernel
theorem dX2_readPage_13 : decode cX2_readPage 13 = .ok (.invokevirtual 145, 3) := by decide +kernel
theorem dX2_readPage_16 : decode cX2_readPage 16 = .ok (.ireturn, 1) := by decide +kernel
theorem dX2_readPage_17 : decode cX2_readPage 17 = .ok (.aload_n 0, 1) := by decide +kernel
theorem dX2_readPage_18 : decode cX2_readPage 18 = .ok (.iconst 3, 1) := by decide +kernel
theorem dX2_readPage_19 : decode cX2_readPage 19 = .ok (.bipush 24, 2) := by decide +kernel
theorem dX2_readPage_21 : decode cX2_readPage 21 = .ok (.invokevirtual 149, 3) := by decide +kernel
theorem dX2_readPage_24 : decode cX2_readPage 24 = .ok (.ifCond .ne 5, 3) := by decide +kernel
theorem dX2_readPage_27 : decode cX2_readPage 27 = .ok (.iconst 0, 1) := by decide +kernel
theorem dX2_readPage_28 : decode cX2_readPage 28 = .ok (.ireturn, 1) := by decide +kernel
theorem dX2_readPage_29 : decode cX2_readPage 29 = .ok (.aload_n 0, 1) := by decide +kernel
theorem dX2_readPage_30 : decode cX2_readPage 30 = .ok (.getfield 43, 3) := by decide +kernel
theorem dX2_readPage_33 : decode cX2_readPage 33 = .ok (.aload_n 0, 1) := by decide +kernel
theorem dX2_readPage_34 : decode cX2_readPage 34 = .ok (.getfield 33, 3) := by decide +kernel
theorem dX2_readPage_37 : decode cX2_readPage 37 = .ok (.putfield 152, 3) := by decide +kernel
theorem dX2_readPage_40 : decode cX2_readPage 40 = .ok (.aload_n 0, 1) := by decide +kernel
theorem dX2_readPage_41 : decode cX2_readPage 41 = .ok (.iconst 3, 1) := by decide +kernel
theorem dX2_readPage_42 : decode cX2_readPage 42 = .ok (.bipush 12, 2) := by decide +kernel
theorem dX2_readPage_44 : decode cX2_readPage 44 = .ok (.invokevirtual 149, 3) := by decide +kernel
theorem dX2_readPage_47 : decode cX2_readPage 47 = .ok (.ifCond .ne 5, 3) := by decide +kernel
theorem dX2_readPage_50 : decode cX2_readPage 50 = .ok (.iconst 0, 1) := by decide +kernel
theorem dX2_readPage_51 : decode cX2_readPage 51 = .ok (.ireturn, 1) := by decide +kernel
theorem dX2_readPage_52 : decode cX2_readPage 52 = .ok (.aload_n 0, 1) := by decide +kernel
theorem dX2_readPage_53 : decode cX2_readPage 53 = .ok (.getfield 43, 3) := by decide +kernel
theorem dX2_readPage_56 : decode cX2_readPage 56 = .ok (.aload_n 0, 1) := by decide +kernel
theorem dX2_readPage_57 : decode cX2_readPage 57 = .ok (.getfield 33, 3) := by decide +kernel
theorem dX2_readPage_60 : decode cX2_readPage 60 = .ok (.putfield 155, 3) := by decide +kernel
theorem dX2_readPage_63 : decode cX2_readPage 63 = .ok (.iconst 1, 1) := by decide +kernel
theorem dX2_readPage_64 : decode cX2_readPage 64 = .ok (.ireturn, 1) := by decide +kernel
theorem dX2_readStroke_0 : decode cX2_readStroke 0 = .ok (.aload_n 0, 1) := by decide +kernel
theorem dX2_readStroke_1 : decode cX2_readStroke 1 = .ok (.getfield 43, 3) := by decide +kernel
theorem dX2_readStroke_4 : decode cX2_readStroke 4 = .ok (.getfield 158, 3) := by decide +kernel
theorem dX2_readStroke_7 : decode cX2_readStroke 7 = .ok (.bipush 12, 2) := by decide +kernel
theorem dX2_readStroke_9 : decode cX2_readStroke 9 = .ok (.if_icmp .lt 13, 3) := by decide +kernel
theorem dX2_readStroke_12 : decode cX2_readStroke 12 = .ok (.aload_n 0, 1) := by decide +kernel
theorem dX2_readStroke_13 : decode cX2_readStroke 13 = .ok (.iconst 4, 1) := by decide +kernel
theorem dX2_readStroke_14 : decode cX2_readStroke 14 = .ok (.aload_n 0, 1) := by decide +kernel
theorem dX2_readStroke_15 : decode cX2_readStroke 15 = .ok (.getfield 27, 3) := by decide +kernel
theorem dX2_readStroke_18 : decode cX2_readStroke 18 = .ok (.invokevirtual 145, 3) := by decide +kernel
theorem dX2_readStroke_21 : decode cX2_readStroke 21 = .ok (.ireturn, 1) := by decide +kernel
theorem dX2_readStroke_22 : decode cX2_readStroke 22 = .ok (.aload_n 0, 1) := by decide +kernel
theorem dX2_readStroke_23 : decode cX2_readStroke 23 = .ok (.iconst 0, 1) := by decide +kernel
theorem dX2_readStroke_24 : decode cX2_readStroke 24 = .ok (.aload_n 0, 1) := by decide +kernel
theorem dX2_readStroke_25 : decode cX2_readStroke 25 = .ok (.getfield 43, 3) := by decide +kernel
theorem dX2_readStroke_28 : decode cX2_readStroke 28 = .ok (.getfield 152, 3) := by decide +kernel
theorem dX2_readStroke_31 : decode cX2_readStroke 31 = .ok (.iconst 1, 1) := by decide +kernel
theorem dX2_readStroke_32 : decode cX2_readStroke 32 = .ok (.isub, 1) := by decide +kernel
theorem dX2_readStroke_33 : decode cX2_readStroke 33 = .ok (.invokevirtual 149, 3) := by decide +kernel
theorem dX2_readStroke_36 : decode cX2_readStroke 36 = .ok (.ifCond .ne 5, 3) := by decide +kernel
theorem dX2_readStroke_39 : decode cX2_readStroke 39 = .ok (.iconst 0, 1) := by decide +kernel
theorem dX2_readStroke_40 : decode cX2_readStroke 40 = .ok (.ireturn, 1) := by decide +kernel
theorem dX2_readStroke_41 : decode cX2_readStroke 41 = .ok (.aload_n 0, 1) := by decide +kernel
theorem dX2_readStroke_42 : decode cX2_readStroke 42 = .ok (.getfield 33, 3) := by decide +kernel
theorem dX2_readStroke_45 : decode cX2_readStroke 45 = .ok (.istore_n 1, 1) := by decide +kernel
theorem dX2_readStroke_46 : decode cX2_readStroke 46 = .ok (.aload_n 0, 1) := by decide +kernel
theorem dX2_readStroke_47 : decode cX2_readStroke 47 = .ok (.iconst 0, 1) := by decide +kernel
theorem dX2_readStroke_48 : decode cX2_readStroke 48 = .ok (.aload_n 0, 1) := by decide +kernel
theorem dX2_readStroke_49 : decode cX2_readStroke 49 = .ok (.getfield 43, 3) := by decide +kernel
theorem dX2_readStroke_52 : decode cX2_readStroke 52 = .ok (.getfield 155, 3) := by decide +kernel
theorem dX2_readStroke_55 : decode cX2_readStroke 55 = .ok (.iconst 1, 1) := by decide +kernel
theorem dX2_readStroke_56 : decode cX2_readStroke 56 = .ok (.isub, 1) := by decide +kernel
theorem dX2_readStroke_57 : decode cX2_readStroke 57 = .ok (.invokevirtual 149, 3) := by decide +kernel
theorem dX2_readStroke_60 : decode cX2_readStroke 60 = .ok (.ifCond .ne 5, 3) := by decide +kernel
theorem dX2_readStroke_63 : decode cX2_readStroke 63 = .ok (.iconst 0, 1) := by decide +kernel
theorem dX2_readStroke_64 : decode cX2_readStroke 64 = .ok (.ireturn, 1) := by decide +kernel
theorem dX2_readStroke_65 : decode cX2_readStroke 65 = .ok (.aload_n 0, 1) := by decide +kernel
theorem dX2_readStroke_66 : decode cX2_readStroke 66 = .ok (.getfield 33, 3) := by decide +kernel
theorem dX2_readStroke_69 : decode cX2_readStroke 69 = .ok (.istore_n 2, 1) := by decide +kernel
theorem dX2_readStroke_70 : decode cX2_readStroke 70 = .ok (.aload_n 0, 1) := by decide +kernel
theorem dX2_readStroke_71 : decode cX2_readStroke 71 = .ok (.iconst 0, 1) := by decide +kernel
theorem dX2_readStroke_72 : decode cX2_readStroke 72 = .ok (.getstatic 161, 3) := by decide +kernel
theorem dX2_readStroke_75 : decode cX2_readStroke 75 = .ok (.arraylength, 1) := by decide +kernel
theorem dX2_readStroke_76 : decode cX2_readStroke 76 = .ok (.iconst 1, 1) := by decide +kernel
theorem dX2_readStroke_77 : decode cX2_readStroke 77 = .ok (.isub, 1) := by decide +kernel
theorem dX2_readStroke_78 : decode cX2_readStroke 78 = .ok (.invokevirtual 149, 3) := by decide +kernel
theorem dX2_readStroke_81 : decode cX2_readStroke 81 = .ok (.ifCond .ne 5, 3) := by decide +kernel
theorem dX2_readStroke_84 : decode cX2_readStroke 84 = .ok (.iconst 0, 1) := by decide +kernel
theorem dX2_readStroke_85 : decode cX2_readStroke 85 = .ok (.ireturn, 1) := by decide +kernel
theorem dX2_readStroke_86 : decode cX2_readStroke 86 = .ok (.aload_n 0, 1) := by decide +kernel
theorem dX2_readStroke_87 : decode cX2_readStroke 87 = .ok (.getfield 33, 3) := by decide +kernel
theorem dX2_readStroke_90 : decode cX2_readStroke 90 = .ok (.istore_n 3, 1) := by decide +kernel
theorem dX2_readStroke_91 : decode cX2_readStroke 91 = .ok (.aload_n 0, 1) := by decide +kernel
theorem dX2_readStroke_92 : decode cX2_readStroke 92 = .ok (.iconst 1, 1) := by decide +kernel
theorem dX2_readStroke_93 : decode cX2_readStroke 93 = .ok (.bipush 9, 2) := by decide +kernel
theorem dX2_readStroke_95 : decode cX2_readStroke 95 = .ok (.invokevirtual 149, 3) := by decide +kernel
theorem dX2_readStroke_98 : decode cX2_readStroke 98 = .ok (.ifCond .ne 5, 3) := by decide +kernel
theorem dX2_readStroke_101 : decode cX2_readStroke 101 = .ok (.iconst 0, 1) := by decide +kernel
theorem dX2_readStroke_102 : decode cX2_readStroke 102 = .ok (.ireturn, 1) := by decide +kernel
theorem dX2_readStroke_103 : decode cX2_readStroke 103 = .ok (.aload_n 0, 1) := by decide +kernel
theorem dX2_readStroke_104 : decode cX2_readStroke 104 = .ok (.getfield 43, 3) := by decide +kernel
theorem dX2_readStroke_107 : decode cX2_readStroke 107 = .ok (.iload_n 1, 1) := by decide +kernel
theorem dX2_readStroke_108 : decode cX2_readStroke 108 = .ok (.iload_n 2, 1) := by decide +kernel
theorem dX2_readStroke_109 : decode cX2_readStroke 109 = .ok (.iload_n 3, 1) := by decide +kernel
theorem dX2_readStroke_110 : decode cX2_readStroke 110 = .ok (.aload_n 0, 1) := by decide +kernel
theorem dX2_readStroke_111 : decode cX2_readStroke 111 = .ok (.getfield 33, 3) := by decide +kernel
theorem dX2_readStroke_114 : decode cX2_readStroke 114 = .ok (.invokevirtual 164, 3) := by decide +kernel
theorem dX2_readStroke_117 : decode cX2_readStroke 117 = .ok (.ifCond .ne 13, 3) := by decide +kernel
theorem dX2_readStroke_120 : decode cX2_readStroke 120 = .ok (.aload_n 0, 1) := by decide +kernel
theorem dX2_readStroke_121 : decode cX2_readStroke 121 = .ok (.iconst 2, 1) := by decide +kernel
theorem dX2_readStroke_122 : decode cX2_readStroke 122 = .ok (.aload_n 0, 1) := by decide +kernel
theorem dX2_readStroke_123 : decode cX2_readStroke 123 = .ok (.getfield 27, 3) := by decide +kernel
theorem dX2_readStroke_126 : decode cX2_readStroke 126 = .ok (.invokevirtual 145, 3) := by decide +kernel
theorem dX2_readStroke_129 : decode cX2_readStroke 129 = .ok (.ireturn, 1) := by decide +kernel
theorem dX2_readStroke_130 : decode cX2_readStroke 130 = .ok (.aload_n 0, 1) := by decide +kernel
theorem dX2_readStroke_131 : decode cX2_readStroke 131 = .ok (.getfield 43, 3) := by decide +kernel
theorem dX2_readStroke_134 : decode cX2_readStroke 134 = .ok (.iload_n 1, 1) := by decide +kernel
theorem dX2_readStroke_135 : decode cX2_readStroke 135 = .ok (.iload_n 2, 1) := by decide +kernel
theorem dX2_readStroke_136 : decode cX2_readStroke 136 = .ok (.iload_n 3, 1) := by decide +kernel
theorem dX2_readStroke_137 : decode cX2_readStroke 137 = .ok (.aload_n 0, 1) := by decide +kernel
theorem dX2_readStroke_138 : decode cX2_readStroke 138 = .ok (.getfield 33, 3) := by decide +kernel
theorem dX2_readStroke_141 : decode cX2_readStroke 141 = .ok (.invokevirtual 168, 3) := by decide +kernel
theorem dX2_readStroke_144 : decode cX2_readStroke 144 = .ok (.iconst 1, 1) := by decide +kernel
theorem dX2_readStroke_145 : decode cX2_readStroke 145 = .ok (.ireturn, 1) := by decide +kernel
theorem dX2_readHand_0 : decode cX2_readHand 0 = .ok (.aload_n 0, 1) := by decide +kernel
theorem dX2_readHand_1 : decode cX2_readHand 1 = .ok (.getfield 27, 3) := by decide +kernel
theorem dX2_readHand_4 : decode cX2_readHand 4 = .ok (.istore_n 1, 1) := by decide +kernel
theorem dX2_readHand_5 : decode cX2_readHand 5 = .ok (.aload_n 0, 1) := by decide +kernel
theorem dX2_readHand_6 : decode cX2_readHand 6 = .ok (.iconst 0, 1) := by decide +kernel
theorem dX2_readHand_7 : decode cX2_readHand 7 = .ok (.aload_n 0, 1) := by decide +kernel
theorem dX2_readHand_8 : decode cX2_readHand 8 = .ok (.getfield 43, 3) := by decide +kernel
theorem dX2_readHand_11 : decode cX2_readHand 11 = .ok (.getfield 158, 3) := by decide +kernel
theorem dX2_readHand_14 : decode cX2_readHand 14 = .ok (.iconst 1, 1) := by decide +kernel
theorem dX2_readHand_15 : decode cX2_readHand 15 = .ok (.isub, 1) := by decide +kernel
theorem dX2_readHand_16 : decode cX2_readHand 16 = .ok (.invokevirtual 149, 3) := by decide +kernel
theorem dX2_readHand_19 : decode cX2_readHand 19 = .ok (.ifCond .ne 5, 3) := by decide +kernel
theorem dX2_readHand_22 : decode cX2_readHand 22 = .ok (.iconst 0, 1) := by decide +kernel
theorem dX2_readHand_23 : decode cX2_readHand 23 = .ok (.ireturn, 1) := by decide +kernel
theorem dX2_readHand_24 : decode cX2_readHand 24 = .ok (.aload_n 0, 1) := by decide +kernel
theorem dX2_readHand_25 : decode cX2_readHand 25 = .ok (.getfield 33, 3) := by decide +kernel
theorem dX2_readHand_28 : decode cX2_readHand 28 = .ok (.istore_n 2, 1) := by decide +kernel
theorem dX2_readHand_29 : decode cX2_readHand 29 = .ok (.aload_n 0, 1) := by decide +kernel
theorem dX2_readHand_30 : decode cX2_readHand 30 = .ok (.iconst 0, 1) := by decide +kernel
theorem dX2_readHand_31 : decode cX2_readHand 31 = .ok (.iconst 1, 1) := by decide +kernel
theorem dX2_readHand_32 : decode cX2_readHand 32 = .ok (.invokevirtual 149, 3) := by decide +kernel
theorem dX2_readHand_35 : decode cX2_readHand 35 = .ok (.ifCond .ne 5, 3) := by decide +kernel
theorem dX2_readHand_38 : decode cX2_readHand 38 = .ok (.iconst 0, 1) := by decide +kernel
theorem dX2_readHand_39 : decode cX2_readHand 39 = .ok (.ireturn, 1) := by decide +kernel
theorem dX2_readHand_40 : decode cX2_readHand 40 = .ok (.aload_n 0, 1) := by decide +kernel
theorem dX2_readHand_41 : decode cX2_readHand 41 = .ok (.getfield 43, 3) := by decide +kernel
theorem dX2_readHand_44 : decode cX2_readHand 44 = .ok (.iload_n 2, 1) := by decide +kernel
theorem dX2_readHand_45 : decode cX2_readHand 45 = .ok (.aload_n 0, 1) := by decide +kernel
theorem dX2_readHand_46 : decode cX2_readHand 46 = .ok (.getfield 33, 3) := by decide +kernel
theorem dX2_readHand_49 : decode cX2_readHand 49 = .ok (.invokevirtual 172, 3) := by decide +kernel
theorem dX2_readHand_52 : decode cX2_readHand 52 = .ok (.ifCond .eq 11, 3) := by decide +kernel
theorem dX2_readHand_55 : decode cX2_readHand 55 = .ok (.aload_n 0, 1) := by decide +kernel
theorem dX2_readHand_56 : decode cX2_readHand 56 = .ok (.bipush 6, 2) := by decide +kernel
theorem dX2_readHand_58 : decode cX2_readHand 58 = .ok (.iload_n 1, 1) := by decide +kernel
theorem dX2_readHand_59 : decode cX2_readHand 59 = .ok (.invokevirtual 145, 3) := by decide +kernel
theorem dX2_readHand_62 : decode cX2_readHand 62 = .ok (.ireturn, 1) := by decide +kernel
theorem dX2_readHand_63 : decode cX2_readHand 63 = .ok (.aload_n 0, 1) := by decide +kernel
theorem dX2_readHand_64 : decode cX2_readHand 64 = .ok (.getfield 43, 3) := by decide +kernel
theorem dX2_readHand_67 : decode cX2_readHand 67 = .ok (.iload_n 2, 1) := by decide +kernel
theorem dX2_readHand_68 : decode cX2_readHand 68 = .ok (.aload_n 0, 1) := by decide +kernel
theorem dX2_readHand_69 : decode cX2_readHand 69 = .ok (.getfield 33, 3) := by decide +kernel
theorem dX2_readHand_72 : decode cX2_readHand 72 = .ok (.invokevirtual 175, 3) := by decide +kernel
theorem dX2_readHand_75 : decode cX2_readHand 75 = .ok (.iconst 1, 1) := by decide +kernel
theorem dX2_readHand_76 : decode cX2_readHand 76 = .ok (.ireturn, 1) := by decide +kernel
theorem dX2_readOver_0 : decode cX2_readOver 0 = .ok (.aload_n 0, 1) := by decide +kernel
theorem dX2_readOver_1 : decode cX2_readOver 1 = .ok (.getfield 27, 3) := by decide +kernel
theorem dX2_readOver_4 : decode cX2_readOver 4 = .ok (.istore_n 1, 1) := by decide +kernel
theorem dX2_readOver_5 : decode cX2_readOver 5 = .ok (.aload_n 0, 1) := by decide +kernel
theorem dX2_readOver_6 : decode cX2_readOver 6 = .ok (.iconst 0, 1) := by decide +kernel
theorem dX2_readOver_7 : decode cX2_readOver 7 = .ok (.aload_n 0, 1) := by decide +kernel
theorem dX2_readOver_8 : decode cX2_readOver 8 = .ok (.getfield 43, 3) := by decide +kernel
theorem dX2_readOver_11 : decode cX2_readOver 11 = .ok (.getfield 158, 3) := by decide +kernel
theorem dX2_readOver_14 : decode cX2_readOver 14 = .ok (.iconst 1, 1) := by decide +kernel
theorem dX2_readOver_15 : decode cX2_readOver 15 = .ok (.isub, 1) := by decide +kernel
theorem dX2_readOver_16 : decode cX2_readOver 16 = .ok (.invokevirtual 149, 3) := by decide +kernel
theorem dX2_readOver_19 : decode cX2_readOver 19 = .ok (.ifCond .ne 5, 3) := by decide +kernel
theorem dX2_readOver_22 : decode cX2_readOver 22 = .ok (.iconst 0, 1) := by decide +kernel
theorem dX2_readOver_23 : decode cX2_readOver 23 = .ok (.ireturn, 1) := by decide +kernel
theorem dX2_readOver_24 : decode cX2_readOver 24 = .ok (.aload_n 0, 1) := by decide +kernel
theorem dX2_readOver_25 : decode cX2_readOver 25 = .ok (.getfield 33, 3) := by decide +kernel
theorem dX2_readOver_28 : decode cX2_readOver 28 = .ok (.istore_n 2, 1) := by decide +kernel
theorem dX2_readOver_29 : decode cX2_readOver 29 = .ok (.aload_n 0, 1) := by decide +kernel
theorem dX2_readOver_30 : decode cX2_readOver 30 = .ok (.iconst 0, 1) := by decide +kernel
theorem dX2_readOver_31 : decode cX2_readOver 31 = .ok (.aload_n 0, 1) := by decide +kernel
theorem dX2_readOver_32 : decode cX2_readOver 32 = .ok (.getfield 43, 3) := by decide +kernel
theorem dX2_readOver_35 : decode cX2_readOver 35 = .ok (.getfield 158, 3) := by decide +kernel
theorem dX2_readOver_38 : decode cX2_readOver 38 = .ok (.iconst 1, 1) := by decide +kernel
theorem dX2_readOver_39 : decode cX2_readOver 39 = .ok (.isub, 1) := by decide +kernel
theorem dX2_readOver_40 : decode cX2_readOver 40 = .ok (.invokevirtual 149, 3) := by decide +kernel
theorem dX2_readOver_43 : decode cX2_readOver 43 = .ok (.ifCond .ne 5, 3) := by decide +kernel
theorem dX2_readOver_46 : decode cX2_readOver 46 = .ok (.iconst 0, 1) := by decide +kernel
theorem dX2_readOver_47 : decode cX2_readOver 47 = .ok (.ireturn, 1) := by decide +kernel
theorem dX2_readOver_48 : decode cX2_readOver 48 = .ok (.aload_n 0, 1) := by decide +kernel
theorem dX2_readOver_49 : decode cX2_readOver 49 = .ok (.getfield 43, 3) := by decide +kernel
theorem dX2_readOver_52 : decode cX2_readOver 52 = .ok (.iload_n 2, 1) := by decide +kernel
theorem dX2_readOver_53 : decode cX2_readOver 53 = .ok (.aload_n 0, 1) := by decide +kernel
theorem dX2_readOver_54 : decode cX2_readOver 54 = .ok (.getfield 33, 3) := by decide +kernel
theorem dX2_readOver_57 : decode cX2_readOver 57 = .ok (.invokestatic 179, 3) := by decide +kernel
theorem dX2_readOver_60 : decode cX2_readOver 60 = .ok (.istore_n 3, 1) := by decide +kernel
theorem dX2_readOver_61 : decode cX2_readOver 61 = .ok (.iload_n 3, 1) := by decide +kernel
theorem dX2_readOver_62 : decode cX2_readOver 62 = .ok (.bipush (-5), 2) := by decide +kernel
theorem dX2_readOver_64 : decode cX2_readOver 64 = .ok (.if_icmp .ne 13, 3) := by decide +kernel
theorem dX2_readOver_67 : decode cX2_readOver 67 = .ok (.aload_n 0, 1) := by decide +kernel
theorem dX2_readOver_68 : decode cX2_readOver 68 = .ok (.iconst 3, 1) := by decide +kernel
theorem dX2_readOver_69 : decode cX2_readOver 69 = .ok (.aload_n 0, 1) := by decide +kernel
theorem dX2_readOver_70 : decode cX2_readOver 70 = .ok (.getfield 27, 3) := by decide +kernel
theorem dX2_readOver_73 : decode cX2_readOver 73 = .ok (.invokevirtual 145, 3) := by decide +kernel
theorem dX2_readOver_76 : decode cX2_readOver 76 = .ok (.ireturn, 1) := by decide +kernel
theorem dX2_readOver_77 : decode cX2_readOver 77 = .ok (.iload_n 3, 1) := by decide +kernel
theorem dX2_readOver_78 : decode cX2_readOver 78 = .ok (.bipush (-105), 2) := by decide +kernel
theorem dX2_readOver_80 : decode cX2_readOver 80 = .ok (.if_icmp .ne 26, 3) := by decide +kernel
theorem dX2_readOver_83 : decode cX2_readOver 83 = .ok (.aload_n 0, 1) := by decide +kernel
theorem dX2_readOver_84 : decode cX2_readOver 84 = .ok (.getfield 51, 3) := by decide +kernel
theorem dX2_readOver_87 : decode cX2_readOver 87 = .ok (.aload_n 0, 1) := by decide +kernel
theorem dX2_readOver_88 : decode cX2_readOver 88 = .ok (.getfield 43, 3) := by decide +kernel
theorem dX2_readOver_91 : decode cX2_readOver 91 = .ok (.iload_n 2, 1) := by decide +kernel
theorem dX2_readOver_92 : decode cX2_readOver 92 = .ok (.aload_n 0, 1) := by decide +kernel
theorem dX2_readOver_93 : decode cX2_readOver 93 = .ok (.getfield 33, 3) := by decide +kernel
theorem dX2_readOver_96 : decode cX2_readOver 96 = .ok (.invokevirtual 183, 3) := by decide +kernel
theorem dX2_readOver_99 : decode cX2_readOver 99 = .ok (.aload_n 0, 1) := by decide +kernel
theorem dX2_readOver_100 : decode cX2_readOver 100 = .ok (.iconst 5, 1) := by decide +kernel
theorem dX2_readOver_101 : decode cX2_readOver 101 = .ok (.iload_n 1, 1) := by decide +kernel
theorem dX2_readOver_102 : decode cX2_readOver 102 = .ok (.invokevirtual 145, 3) := by decide +kernel
theorem dX2_readOver_105 : decode cX2_readOver 105 = .ok (.ireturn, 1) := by decide +kernel
theorem dX2_readOver_106 : decode cX2_readOver 106 = .ok (.iload_n 3, 1) := by decide +kernel
theorem dX2_readOver_107 : decode cX2_readOver 107 = .ok (.ifCond .eq 11, 3) := by decide +kernel
theorem dX2_readOver_110 : decode cX2_readOver 110 = .ok (.aload_n 0, 1) := by decide +kernel
theorem dX2_readOver_111 : decode cX2_readOver 111 = .ok (.bipush 6, 2) := by decide +kernel
theorem dX2_readOver_113 : decode cX2_readOver 113 = .ok (.iload_n 1, 1) := by decide +kernel
theorem dX2_readOver_114 : decode cX2_readOver 114 = .ok (.invokevirtual 145, 3) := by decide +kernel
theorem dX2_readOver_117 : decode cX2_readOver 117 = .ok (.ireturn, 1) := by decide +kernel
theorem dX2_readOver_118 : decode cX2_readOver 118 = .ok (.aload_n 0, 1) := by decide +kernel
theorem dX2_readOver_119 : decode cX2_readOver 119 = .ok (.getfield 43, 3) := by decide +kernel
theorem dX2_readOver_122 : decode cX2_readOver 122 = .ok (.iload_n 2, 1) := by decide +kernel
theorem dX2_readOver_123 : decode cX2_readOver 123 = .ok (.aload_n 0, 1) := by decide +kernel
theorem dX2_readOver_124 : decode cX2_readOver 124 = .ok (.getfield 33, 3) := by decide +kernel
theorem dX2_readOver_127 : decode cX2_readOver 127 = .ok (.invokevirtual 189, 3) := by decide +kernel
theorem dX2_readOver_130 : decode cX2_readOver 130 = .ok (.iconst 1, 1) := by decide +kernel
theorem dX2_readOver_131 : decode cX2_readOver 131 = .ok (.ireturn, 1) := by decide +kernel
theorem dX2_readLetter_0 : decode cX2_readLetter 0 = .ok (.aload_n 0, 1) := by decide +kernel
theorem dX2_readLetter_1 : decode cX2_readLetter 1 = .ok (.getfield 47, 3) := by decide +kernel
theorem dX2_readLetter_4 : decode cX2_readLetter 4 = .ok (.getfield 192, 3) := by decide +kernel
theorem dX2_readLetter_7 : decode cX2_readLetter 7 = .ok (.bipush 10, 2) := by decide +kernel
theorem dX2_readLetter_9 : decode cX2_readLetter 9 = .ok (.if_icmp .lt 13, 3) := by decide +kernel
theorem dX2_readLetter_12 : decode cX2_readLetter 12 = .ok (.aload_n 0, 1) := by decide +kernel
theorem dX2_readLetter_13 : decode cX2_readLetter 13 = .ok (.iconst 4, 1) := by decide +kernel
theorem dX2_readLetter_14 : decode cX2_readLetter 14 = .ok (.aload_n 0, 1) := by decide +kernel
theorem dX2_readLetter_15 : decode cX2_readLetter 15 = .ok (.getfield 27, 3) := by decide +kernel
theorem dX2_readLetter_18 : decode cX2_readLetter 18 = .ok (.invokevirtual 145, 3) := by decide +kernel
theorem dX2_readLetter_21 : decode cX2_readLetter 21 = .ok (.ireturn, 1) := by decide +kernel
theorem dX2_readLetter_22 : decode cX2_readLetter 22 = .ok (.aload_n 0, 1) := by decide +kernel
theorem dX2_readLetter_23 : decode cX2_readLetter 23 = .ok (.invokevirtual 63, 3) := by decide +kernel
theorem dX2_readLetter_26 : decode cX2_readLetter 26 = .ok (.aload_n 0, 1) := by decide +kernel
theorem dX2_readLetter_27 : decode cX2_readLetter 27 = .ok (.getfield 24, 3) := by decide +kernel
theorem dX2_readLetter_30 : decode cX2_readLetter 30 = .ok (.iconst 2, 1) := by decide +kernel
theorem dX2_readLetter_31 : decode cX2_readLetter 31 = .ok (.if_icmp .ne 11, 3) := by decide +kernel
theorem dX2_readLetter_34 : decode cX2_readLetter 34 = .ok (.aload_n 0, 1) := by decide +kernel
theorem dX2_readLetter_35 : decode cX2_readLetter 35 = .ok (.getfield 30, 3) := by decide +kernel
theorem dX2_readLetter_38 : decode cX2_readLetter 38 = .ok (.iconst 1, 1) := by decide +kernel
theorem dX2_readLetter_39 : decode cX2_readLetter 39 = .ok (.if_icmp .eq 13, 3) := by decide +kernel
theorem dX2_readLetter_42 : decode cX2_readLetter 42 = .ok (.aload_n 0, 1) := by decide +kernel
theorem dX2_readLetter_43 : decode cX2_readLetter 43 = .ok (.iconst 1, 1) := by decide +kernel
theorem dX2_readLetter_44 : decode cX2_readLetter 44 = .ok (.aload_n 0, 1) := by decide +kernel
theorem dX2_readLetter_45 : decode cX2_readLetter 45 = .ok (.getfield 27, 3) := by decide +kernel
theorem dX2_readLetter_48 : decode cX2_readLetter 48 = .ok (.invokevirtual 145, 3) := by decide +kernel
theorem dX2_readLetter_51 : decode cX2_readLetter 51 = .ok (.ireturn, 1) := by decide +kernel
theorem dX2_readLetter_52 : decode cX2_readLetter 52 = .ok (.aload_n 0, 1) := by decide +kernel
theorem dX2_readLetter_53 : decode cX2_readLetter 53 = .ok (.getfield 36, 3) := by decide +kernel
theorem dX2_readLetter_56 : decode cX2_readLetter 56 = .ok (.getfield 73, 3) := by decide +kernel
theorem dX2_readLetter_59 : decode cX2_readLetter 59 = .ok (.aload_n 0, 1) := by decide +kernel
theorem dX2_readLetter_60 : decode cX2_readLetter 60 = .ok (.getfield 27, 3) := by decide +kernel
theorem dX2_readLetter_63 : decode cX2_readLetter 63 = .ok (.iaload, 1) := by decide +kernel
theorem dX2_readLetter_64 : decode cX2_readLetter 64 = .ok (.istore_n 1, 1) := by decide +kernel
theorem dX2_readLetter_65 : decode cX2_readLetter 65 = .ok (.aload_n 0, 1) := by decide +kernel
theorem dX2_readLetter_66 : decode cX2_readLetter 66 = .ok (.getfield 47, 3) := by decide +kernel
theorem dX2_readLetter_69 : decode cX2_readLetter 69 = .ok (.iload_n 1, 1) := by decide +kernel
theorem dX2_readLetter_70 : decode cX2_readLetter 70 = .ok (.invokevirtual 195, 3) := by decide +kernel
theorem dX2_readLetter_73 : decode cX2_readLetter 73 = .ok (.iconst (-1), 1) := by decide +kernel
theorem dX2_readLetter_74 : decode cX2_readLetter 74 = .ok (.if_icmp .eq 13, 3) := by decide +kernel
theorem dX2_readLetter_77 : decode cX2_readLetter 77 = .ok (.aload_n 0, 1) := by decide +kernel
theorem dX2_readLetter_78 : decode cX2_readLetter 78 = .ok (.iconst 3, 1) := by decide +kernel
theorem dX2_readLetter_79 : decode cX2_readLetter 79 = .ok (.aload_n 0, 1) := by decide +kernel
theorem dX2_readLetter_80 : decode cX2_readLetter 80 = .ok (.getfield 27, 3) := by decide +kernel
theorem dX2_readLetter_83 : decode cX2_readLetter 83 = .ok (.invokevirtual 145, 3) := by decide +kernel
theorem dX2_readLetter_86 : decode cX2_readLetter 86 = .ok (.ireturn, 1) := by decide +kernel
theorem dX2_readLetter_87 : decode cX2_readLetter 87 = .ok (.aload_n 0, 1) := by decide +kernel
theorem dX2_readLetter_88 : decode cX2_readLetter 88 = .ok (.iconst 1, 1) := by decide +kernel
theorem dX2_readLetter_89 : decode cX2_readLetter 89 = .ok (.sipush 511, 3) := by decide +kernel
theorem dX2_readLetter_92 : decode cX2_readLetter 92 = .ok (.invokevirtual 149, 3) := by decide +kernel
theorem dX2_readLetter_95 : decode cX2_readLetter 95 = .ok (.ifCond .ne 5, 3) := by decide +kernel
theorem dX2_readLetter_98 : decode cX2_readLetter 98 = .ok (.iconst 0, 1) := by decide +kernel
theorem dX2_readLetter_99 : decode cX2_readLetter 99 = .ok (.ireturn, 1) := by decide +kernel
theorem dX2_readLetter_100 : decode cX2_readLetter 100 = .ok (.aload_n 0, 1) := by decide +kernel
theorem dX2_readLetter_101 : decode cX2_readLetter 101 = .ok (.getfield 33, 3) := by decide +kernel
theorem dX2_readLetter_104 : decode cX2_readLetter 104 = .ok (.istore_n 2, 1) := by decide +kernel
theorem dX2_readLetter_105 : decode cX2_readLetter 105 = .ok (.aload_n 0, 1) := by decide +kernel
theorem dX2_readLetter_106 : decode cX2_readLetter 106 = .ok (.iconst 1, 1) := by decide +kernel
theorem dX2_readLetter_107 : decode cX2_readLetter 107 = .ok (.bipush 99, 2) := by decide +kernel
theorem dX2_readLetter_109 : decode cX2_readLetter 109 = .ok (.invokevirtual 149, 3) := by decide +kernel
theorem dX2_readLetter_112 : decode cX2_readLetter 112 = .ok (.ifCond .ne 5, 3) := by decide +kernel
theorem dX2_readLetter_115 : decode cX2_readLetter 115 = .ok (.iconst 0, 1) := by decide +kernel
theorem dX2_readLetter_116 : decode cX2_readLetter 116 = .ok (.ireturn, 1) := by decide +kernel
theorem dX2_readLetter_117 : decode cX2_readLetter 117 = .ok (.aload_n 0, 1) := by decide +kernel
theorem dX2_readLetter_118 : decode cX2_readLetter 118 = .ok (.getfield 47, 3) := by decide +kernel
theorem dX2_readLetter_121 : decode cX2_readLetter 121 = .ok (.iload_n 1, 1) := by decide +kernel
theorem dX2_readLetter_122 : decode cX2_readLetter 122 = .ok (.iload_n 2, 1) := by decide +kernel
theorem dX2_readLetter_123 : decode cX2_readLetter 123 = .ok (.aload_n 0, 1) := by decide +kernel
theorem dX2_readLetter_124 : decode cX2_readLetter 124 = .ok (.getfield 33, 3) := by decide +kernel
theorem dX2_readLetter_127 : decode cX2_readLetter 127 = .ok (.invokevirtual 199, 3) := by decide +kernel
theorem dX2_readLetter_130 : decode cX2_readLetter 130 = .ok (.iconst 1, 1) := by decide +kernel
theorem dX2_readLetter_131 : decode cX2_readLetter 131 = .ok (.ireturn, 1) := by decide +kernel
theorem dX2_readPlace_0 : decode cX2_readPlace 0 = .ok (.aload_n 0, 1) := by decide +kernel
theorem dX2_readPlace_1 : decode cX2_readPlace 1 = .ok (.getfield 47, 3) := by decide +kernel
theorem dX2_readPlace_4 : decode cX2_readPlace 4 = .ok (.getfield 203, 3) := by decide +kernel
theorem dX2_readPlace_7 : decode cX2_readPlace 7 = .ok (.bipush 8, 2) := by decide +kernel
theorem dX2_readPlace_9 : decode cX2_readPlace 9 = .ok (.if_icmp .lt 13, 3) := by decide +kernel
theorem dX2_readPlace_12 : decode cX2_readPlace 12 = .ok (.aload_n 0, 1) := by decide +kernel
theorem dX2_readPlace_13 : decode cX2_readPlace 13 = .ok (.iconst 4, 1) := by decide +kernel
theorem dX2_readPlace_14 : decode cX2_readPlace 14 = .ok (.aload_n 0, 1) := by decide +kernel
theorem dX2_readPlace_15 : decode cX2_readPlace 15 = .ok (.getfield 27, 3) := by decide +kernel
theorem dX2_readPlace_18 : decode cX2_readPlace 18 = .ok (.invokevirtual 145, 3) := by decide +kernel
theorem dX2_readPlace_21 : decode cX2_readPlace 21 = .ok (.ireturn, 1) := by decide +kernel
theorem dX2_readPlace_22 : decode cX2_readPlace 22 = .ok (.aload_n 0, 1) := by decide +kernel
theorem dX2_readPlace_23 : decode cX2_readPlace 23 = .ok (.iconst 0, 1) := by decide +kernel
theorem dX2_readPlace_24 : decode cX2_readPlace 24 = .ok (.aload_n 0, 1) := by decide +kernel
theorem dX2_readPlace_25 : decode cX2_readPlace 25 = .ok (.getfield 43, 3) := by decide +kernel
theorem dX2_readPlace_28 : decode cX2_readPlace 28 = .ok (.getfield 152, 3) := by decide +kernel
theorem dX2_readPlace_31 : decode cX2_readPlace 31 = .ok (.iconst 3, 1) := by decide +kernel
theorem dX2_readPlace_32 : decode cX2_readPlace 32 = .ok (.isub, 1) := by decide +kernel
theorem dX2_readPlace_33 : decode cX2_readPlace 33 = .ok (.invokevirtual 149, 3) := by decide +kernel
theorem dX2_readPlace_36 : decode cX2_readPlace 36 = .ok (.ifCond .ne 5, 3) := by decide +kernel
theorem dX2_readPlace_39 : decode cX2_readPlace 39 = .ok (.iconst 0, 1) := by decide +kernel
theorem dX2_readPlace_40 : decode cX2_readPlace 40 = .ok (.ireturn, 1) := by decide +kernel
theorem dX2_readPlace_41 : decode cX2_readPlace 41 = .ok (.aload_n 0, 1) := by decide +kernel
theorem dX2_readPlace_42 : decode cX2_readPlace 42 = .ok (.getfield 33, 3) := by decide +kernel
theorem dX2_readPlace_45 : decode cX2_readPlace 45 = .ok (.istore_n 1, 1) := by decide +kernel
theorem dX2_readPlace_46 : decode cX2_readPlace 46 = .ok (.aload_n 0, 1) := by decide +kernel
theorem dX2_readPlace_47 : decode cX2_readPlace 47 = .ok (.iconst 0, 1) := by decide +kernel
theorem dX2_readPlace_48 : decode cX2_readPlace 48 = .ok (.aload_n 0, 1) := by decide +kernel
theorem dX2_readPlace_49 : decode cX2_readPlace 49 = .ok (.getfield 43, 3) := by decide +kernel
theorem dX2_readPlace_52 : decode cX2_readPlace 52 = .ok (.getfield 155, 3) := by decide +kernel
theorem dX2_readPlace_55 : decode cX2_readPlace 55 = .ok (.iconst 3, 1) := by decide +kernel
theorem dX2_readPlace_56 : decode cX2_readPlace 56 = .ok (.isub, 1) := by decide +kernel
theorem dX2_readPlace_57 : decode cX2_readPlace 57 = .ok (.invokevirtual 149, 3) := by decide +kernel
theorem dX2_readPlace_60 : decode cX2_readPlace 60 = .ok (.ifCond .ne 5, 3) := by decide +kernel
theorem dX2_readPlace_63 : decode cX2_readPlace 63 = .ok (.iconst 0, 1) := by decide +kernel
theorem dX2_readPlace_64 : decode cX2_readPlace 64 = .ok (.ireturn, 1) := by decide +kernel
theorem dX2_readPlace_65 : decode cX2_readPlace 65 = .ok (.aload_n 0, 1) := by decide +kernel
theorem dX2_readPlace_66 : decode cX2_readPlace 66 = .ok (.getfield 47, 3) := by decide +kernel
theorem dX2_readPlace_69 : decode cX2_readPlace 69 = .ok (.iload_n 1, 1) := by decide +kernel
theorem dX2_readPlace_70 : decode cX2_readPlace 70 = .ok (.aload_n 0, 1) := by decide +kernel
theorem dX2_readPlace_71 : decode cX2_readPlace 71 = .ok (.getfield 33, 3) := by decide +kernel
theorem dX2_readPlace_74 : decode cX2_readPlace 74 = .ok (.invokevirtual 206, 3) := by decide +kernel
theorem dX2_readPlace_77 : decode cX2_readPlace 77 = .ok (.iconst 1, 1) := by decide +kernel
theorem dX2_readPlace_78 : decode cX2_readPlace 78 = .ok (.ireturn, 1) := by decide +kernel
theorem dX2_readWord_0 : decode cX2_readWord 0 = .ok (.aload_n 0, 1) := by decide +kernel
theorem dX2_readWord_1 : decode cX2_readWord 1 = .ok (.getfield 47, 3) := by decide +kernel
theorem dX2_readWord_4 : decode cX2_readWord 4 = .ok (.getfield 209, 3) := by decide +kernel
theorem dX2_readWord_7 : decode cX2_readWord 7 = .ok (.bipush 12, 2) := by decide +kernel
theorem dX2_readWord_9 : decode cX2_readWord 9 = .ok (.if_icmp .lt 13, 3) := by decide +kernel
theorem dX2_readWord_12 : decode cX2_readWord 12 = .ok (.aload_n 0, 1) := by decide +kernel
theorem dX2_readWord_13 : decode cX2_readWord 13 = .ok (.iconst 4, 1) := by decide +kernel
theorem dX2_readWord_14 : decode cX2_readWord 14 = .ok (.aload_n 0, 1) := by decide +kernel
theorem dX2_readWord_15 : decode cX2_readWord 15 = .ok (.getfield 27, 3) := by decide +kernel
theorem dX2_readWord_18 : decode cX2_readWord 18 = .ok (.invokevirtual 145, 3) := by decide +kernel
theorem dX2_readWord_21 : decode cX2_readWord 21 = .ok (.ireturn, 1) := by decide +kernel
theorem dX2_readWord_22 : decode cX2_readWord 22 = .ok (.aload_n 0, 1) := by decide +kernel
theorem dX2_readWord_23 : decode cX2_readWord 23 = .ok (.invokevirtual 63, 3) := by decide +kernel
theorem dX2_readWord_26 : decode cX2_readWord 26 = .ok (.aload_n 0, 1) := by decide +kernel
theorem dX2_readWord_27 : decode cX2_readWord 27 = .ok (.getfield 24, 3) := by decide +kernel
theorem dX2_readWord_30 : decode cX2_readWord 30 = .ok (.iconst 2, 1) := by decide +kernel
theorem dX2_readWord_31 : decode cX2_readWord 31 = .ok (.if_icmp .ne 12, 3) := by decide +kernel
theorem dX2_readWord_34 : decode cX2_readWord 34 = .ok (.aload_n 0, 1) := by decide +kernel
theorem dX2_readWord_35 : decode cX2_readWord 35 = .ok (.getfield 30, 3) := by decide +kernel
theorem dX2_readWord_38 : decode cX2_readWord 38 = .ok (.bipush 6, 2) := by decide +kernel
theorem dX2_readWord_40 : decode cX2_readWord 40 = .ok (.if_icmp .le 13, 3) := by decide +kernel
theorem dX2_readWord_43 : decode cX2_readWord 43 = .ok (.aload_n 0, 1) := by decide +kernel
theorem dX2_readWord_44 : decode cX2_readWord 44 = .ok (.iconst 1, 1) := by decide +kernel
theorem dX2_readWord_45 : decode cX2_readWord 45 = .ok (.aload_n 0, 1) := by decide +kernel
theorem dX2_readWord_46 : decode cX2_readWord 46 = .ok (.getfield 27, 3) := by decide +kernel
theorem dX2_readWord_49 : decode cX2_readWord 49 = .ok (.invokevirtual 145, 3) := by decide +kernel
theorem dX2_readWord_52 : decode cX2_readWord 52 = .ok (.ireturn, 1) := by decide +kernel
theorem dX2_readWord_53 : decode cX2_readWord 53 = .ok (.aload_n 0, 1) := by decide +kernel
theorem dX2_readWord_54 : decode cX2_readWord 54 = .ok (.getfield 47, 3) := by decide +kernel
theorem dX2_readWord_57 : decode cX2_readWord 57 = .ok (.getfield 209, 3) := by decide +kernel
theorem dX2_readWord_60 : decode cX2_readWord 60 = .ok (.istore_n 1, 1) := by decide +kernel
theorem dX2_readWord_61 : decode cX2_readWord 61 = .ok (.iconst 0, 1) := by decide +kernel
theorem dX2_readWord_62 : decode cX2_readWord 62 = .ok (.istore_n 2, 1) := by decide +kernel
theorem dX2_readWord_63 : decode cX2_readWord 63 = .ok (.iload_n 2, 1) := by decide +kernel
theorem dX2_readWord_64 : decode cX2_readWord 64 = .ok (.aload_n 0, 1) := by decide +kernel
theorem dX2_readWord_65 : decode cX2_readWord 65 = .ok (.getfield 30, 3) := by decide +kernel
theorem dX2_readWord_68 : decode cX2_readWord 68 = .ok (.if_icmp .ge 61, 3) := by decide +kernel
