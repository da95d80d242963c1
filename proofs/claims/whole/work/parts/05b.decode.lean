theorem dX5_init_0 : decode cX5_init 0 = .ok (.aload_n 0, 1) := by decide +kernel
theorem dX5_init_1 : decode cX5_init 1 = .ok (.invokespecial 3, 3) := by decide +kernel
theorem dX5_init_4 : decode cX5_init 4 = .ok (.aload_n 0, 1) := by decide +kernel
theorem dX5_init_5 : decode cX5_init 5 = .ok (.new 9, 3) := by decide +kernel
theorem dX5_init_8 : decode cX5_init 8 = .ok (.dup, 1) := by decide +kernel
theorem dX5_init_9 : decode cX5_init 9 = .ok (.invokespecial 11, 3) := by decide +kernel
theorem dX5_init_12 : decode cX5_init 12 = .ok (.putfield 12, 3) := by decide +kernel
theorem dX5_init_15 : decode cX5_init 15 = .ok (.aload_n 0, 1) := by decide +kernel
theorem dX5_init_16 : decode cX5_init 16 = .ok (.new 18, 3) := by decide +kernel
theorem dX5_init_19 : decode cX5_init 19 = .ok (.dup, 1) := by decide +kernel
theorem dX5_init_20 : decode cX5_init 20 = .ok (.invokespecial 20, 3) := by decide +kernel
theorem dX5_init_23 : decode cX5_init 23 = .ok (.putfield 21, 3) := by decide +kernel
theorem dX5_init_26 : decode cX5_init 26 = .ok (.aload_n 0, 1) := by decide +kernel
theorem dX5_init_27 : decode cX5_init 27 = .ok (.new 25, 3) := by decide +kernel
theorem dX5_init_30 : decode cX5_init 30 = .ok (.dup, 1) := by decide +kernel
theorem dX5_init_31 : decode cX5_init 31 = .ok (.invokespecial 27, 3) := by decide +kernel
theorem dX5_init_34 : decode cX5_init 34 = .ok (.putfield 28, 3) := by decide +kernel
theorem dX5_init_37 : decode cX5_init 37 = .ok (.aload_n 0, 1) := by decide +kernel
theorem dX5_init_38 : decode cX5_init 38 = .ok (.iconst 4, 1) := by decide +kernel
theorem dX5_init_39 : decode cX5_init 39 = .ok (.newarray .int, 2) := by decide +kernel
theorem dX5_init_41 : decode cX5_init 41 = .ok (.putfield 32, 3) := by decide +kernel
theorem dX5_init_44 : decode cX5_init 44 = .ok (.aload_n 0, 1) := by decide +kernel
theorem dX5_init_45 : decode cX5_init 45 = .ok (.bipush 8, 2) := by decide +kernel
theorem dX5_init_47 : decode cX5_init 47 = .ok (.newarray .int, 2) := by decide +kernel
theorem dX5_init_49 : decode cX5_init 49 = .ok (.putfield 36, 3) := by decide +kernel
theorem dX5_init_52 : decode cX5_init 52 = .ok (.aload_n 0, 1) := by decide +kernel
theorem dX5_init_53 : decode cX5_init 53 = .ok (.iconst 3, 1) := by decide +kernel
theorem dX5_init_54 : decode cX5_init 54 = .ok (.newarray .int, 2) := by decide +kernel
theorem dX5_init_56 : decode cX5_init 56 = .ok (.putfield 39, 3) := by decide +kernel
theorem dX5_init_59 : decode cX5_init 59 = .ok (.aload_n 0, 1) := by decide +kernel
theorem dX5_init_60 : decode cX5_init 60 = .ok (.iconst 3, 1) := by decide +kernel
theorem dX5_init_61 : decode cX5_init 61 = .ok (.newarray .int, 2) := by decide +kernel
theorem dX5_init_63 : decode cX5_init 63 = .ok (.putfield 42, 3) := by decide +kernel
theorem dX5_init_66 : decode cX5_init 66 = .ok (.aload_n 0, 1) := by decide +kernel
theorem dX5_init_67 : decode cX5_init 67 = .ok (.bipush 48, 2) := by decide +kernel
theorem dX5_init_69 : decode cX5_init 69 = .ok (.newarray .int, 2) := by decide +kernel
theorem dX5_init_71 : decode cX5_init 71 = .ok (.putfield 45, 3) := by decide +kernel
theorem dX5_init_74 : decode cX5_init 74 = .ok (.aload_n 0, 1) := by decide +kernel
theorem dX5_init_75 : decode cX5_init 75 = .ok (.iconst 1, 1) := by decide +kernel
theorem dX5_init_76 : decode cX5_init 76 = .ok (.putfield 48, 3) := by decide +kernel
theorem dX5_init_79 : decode cX5_init 79 = .ok (.aload_n 0, 1) := by decide +kernel
theorem dX5_init_80 : decode cX5_init 80 = .ok (.iconst 0, 1) := by decide +kernel
theorem dX5_init_81 : decode cX5_init 81 = .ok (.putfield 52, 3) := by decide +kernel
theorem dX5_init_84 : decode cX5_init 84 = .ok (.aload_n 0, 1) := by decide +kernel
theorem dX5_init_85 : decode cX5_init 85 = .ok (.iconst 1, 1) := by decide +kernel
theorem dX5_init_86 : decode cX5_init 86 = .ok (.putfield 55, 3) := by decide +kernel
theorem dX5_init_89 : decode cX5_init 89 = .ok (.aload_n 0, 1) := by decide +kernel
theorem dX5_init_90 : decode cX5_init 90 = .ok (.getfield 32, 3) := by decide +kernel
theorem dX5_init_93 : decode cX5_init 93 = .ok (.iconst 0, 1) := by decide +kernel
theorem dX5_init_94 : decode cX5_init 94 = .ok (.iconst 5, 1) := by decide +kernel
theorem dX5_init_95 : decode cX5_init 95 = .ok (.iastore, 1) := by decide +kernel
theorem dX5_init_96 : decode cX5_init 96 = .ok (.aload_n 0, 1) := by decide +kernel
theorem dX5_init_97 : decode cX5_init 97 = .ok (.getfield 32, 3) := by decide +kernel
theorem dX5_init_100 : decode cX5_init 100 = .ok (.iconst 1, 1) := by decide +kernel
theorem dX5_init_101 : decode cX5_init 101 = .ok (.bipush 40, 2) := by decide +kernel
theorem dX5_init_103 : decode cX5_init 103 = .ok (.iastore, 1) := by decide +kernel
theorem dX5_init_104 : decode cX5_init 104 = .ok (.aload_n 0, 1) := by decide +kernel
theorem dX5_init_105 : decode cX5_init 105 = .ok (.getfield 32, 3) := by decide +kernel
theorem dX5_init_108 : decode cX5_init 108 = .ok (.iconst 2, 1) := by decide +kernel
theorem dX5_init_109 : decode cX5_init 109 = .ok (.bipush 50, 2) := by decide +kernel
theorem dX5_init_111 : decode cX5_init 111 = .ok (.iastore, 1) := by decide +kernel
theorem dX5_init_112 : decode cX5_init 112 = .ok (.aload_n 0, 1) := by decide +kernel
theorem dX5_init_113 : decode cX5_init 113 = .ok (.getfield 32, 3) := by decide +kernel
theorem dX5_init_116 : decode cX5_init 116 = .ok (.iconst 3, 1) := by decide +kernel
theorem dX5_init_117 : decode cX5_init 117 = .ok (.bipush 50, 2) := by decide +kernel
theorem dX5_init_119 : decode cX5_init 119 = .ok (.iastore, 1) := by decide +kernel
theorem dX5_init_120 : decode cX5_init 120 = .ok (.aload_n 0, 1) := by decide +kernel
theorem dX5_init_121 : decode cX5_init 121 = .ok (.getfield 45, 3) := by decide +kernel
theorem dX5_init_124 : decode cX5_init 124 = .ok (.iconst 0, 1) := by decide +kernel
theorem dX5_init_125 : decode cX5_init 125 = .ok (.bipush 20, 2) := by decide +kernel
theorem dX5_init_127 : decode cX5_init 127 = .ok (.iastore, 1) := by decide +kernel
theorem dX5_init_128 : decode cX5_init 128 = .ok (.return_, 1) := by decide +kernel
theorem dX5_copy_0 : decode cX5_copy 0 = .ok (.aload_n 0, 1) := by decide +kernel
theorem dX5_copy_1 : decode cX5_copy 1 = .ok (.getfield 12, 3) := by decide +kernel
theorem dX5_copy_4 : decode cX5_copy 4 = .ok (.aload_n 1, 1) := by decide +kernel
theorem dX5_copy_5 : decode cX5_copy 5 = .ok (.getfield 12, 3) := by decide +kernel
theorem dX5_copy_8 : decode cX5_copy 8 = .ok (.invokevirtual 58, 3) := by decide +kernel
theorem dX5_copy_11 : decode cX5_copy 11 = .ok (.aload_n 0, 1) := by decide +kernel
theorem dX5_copy_12 : decode cX5_copy 12 = .ok (.getfield 21, 3) := by decide +kernel
theorem dX5_copy_15 : decode cX5_copy 15 = .ok (.aload_n 1, 1) := by decide +kernel
theorem dX5_copy_16 : decode cX5_copy 16 = .ok (.getfield 21, 3) := by decide +kernel
theorem dX5_copy_19 : decode cX5_copy 19 = .ok (.invokevirtual 62, 3) := by decide +kernel
theorem dX5_copy_22 : decode cX5_copy 22 = .ok (.aload_n 0, 1) := by decide +kernel
theorem dX5_copy_23 : decode cX5_copy 23 = .ok (.getfield 28, 3) := by decide +kernel
theorem dX5_copy_26 : decode cX5_copy 26 = .ok (.aload_n 1, 1) := by decide +kernel
theorem dX5_copy_27 : decode cX5_copy 27 = .ok (.getfield 28, 3) := by decide +kernel
theorem dX5_copy_30 : decode cX5_copy 30 = .ok (.invokevirtual 65, 3) := by decide +kernel
theorem dX5_copy_33 : decode cX5_copy 33 = .ok (.aload_n 1, 1) := by decide +kernel
theorem dX5_copy_34 : decode cX5_copy 34 = .ok (.getfield 32, 3) := by decide +kernel
theorem dX5_copy_37 : decode cX5_copy 37 = .ok (.iconst 0, 1) := by decide +kernel
theorem dX5_copy_38 : decode cX5_copy 38 = .ok (.aload_n 0, 1) := by decide +kernel
theorem dX5_copy_39 : decode cX5_copy 39 = .ok (.getfield 32, 3) := by decide +kernel
theorem dX5_copy_42 : decode cX5_copy 42 = .ok (.iconst 0, 1) := by decide +kernel
theorem dX5_copy_43 : decode cX5_copy 43 = .ok (.iconst 4, 1) := by decide +kernel
theorem dX5_copy_44 : decode cX5_copy 44 = .ok (.invokestatic 68, 3) := by decide +kernel
theorem dX5_copy_47 : decode cX5_copy 47 = .ok (.aload_n 1, 1) := by decide +kernel
theorem dX5_copy_48 : decode cX5_copy 48 = .ok (.getfield 36, 3) := by decide +kernel
theorem dX5_copy_51 : decode cX5_copy 51 = .ok (.iconst 0, 1) := by decide +kernel
theorem dX5_copy_52 : decode cX5_copy 52 = .ok (.aload_n 0, 1) := by decide +kernel
theorem dX5_copy_53 : decode cX5_copy 53 = .ok (.getfield 36, 3) := by decide +kernel
theorem dX5_copy_56 : decode cX5_copy 56 = .ok (.iconst 0, 1) := by decide +kernel
theorem dX5_copy_57 : decode cX5_copy 57 = .ok (.bipush 8, 2) := by decide +kernel
theorem dX5_copy_59 : decode cX5_copy 59 = .ok (.invokestatic 68, 3) := by decide +kernel
theorem dX5_copy_62 : decode cX5_copy 62 = .ok (.aload_n 1, 1) := by decide +kernel
theorem dX5_copy_63 : decode cX5_copy 63 = .ok (.getfield 39, 3) := by decide +kernel
theorem dX5_copy_66 : decode cX5_copy 66 = .ok (.iconst 0, 1) := by decide +kernel
theorem dX5_copy_67 : decode cX5_copy 67 = .ok (.aload_n 0, 1) := by decide +kernel
theorem dX5_copy_68 : decode cX5_copy 68 = .ok (.getfield 39, 3) := by decide +kernel
theorem dX5_copy_71 : decode cX5_copy 71 = .ok (.iconst 0, 1) := by decide +kernel
theorem dX5_copy_72 : decode cX5_copy 72 = .ok (.iconst 3, 1) := by decide +kernel
theorem dX5_copy_73 : decode cX5_copy 73 = .ok (.invokestatic 68, 3) := by decide +kernel
theorem dX5_copy_76 : decode cX5_copy 76 = .ok (.aload_n 1, 1) := by decide +kernel
theorem dX5_copy_77 : decode cX5_copy 77 = .ok (.getfield 42, 3) := by decide +kernel
theorem dX5_copy_80 : decode cX5_copy 80 = .ok (.iconst 0, 1) := by decide +kernel
theorem dX5_copy_81 : decode cX5_copy 81 = .ok (.aload_n 0, 1) := by decide +kernel
theorem dX5_copy_82 : decode cX5_copy 82 = .ok (.getfield 42, 3) := by decide +kernel
theorem dX5_copy_85 : decode cX5_copy 85 = .ok (.iconst 0, 1) := by decide +kernel
theorem dX5_copy_86 : decode cX5_copy 86 = .ok (.iconst 3, 1) := by decide +kernel
theorem dX5_copy_87 : decode cX5_copy 87 = .ok (.invokestatic 68, 3) := by decide +kernel
theorem dX5_copy_90 : decode cX5_copy 90 = .ok (.aload_n 0, 1) := by decide +kernel
theorem dX5_copy_91 : decode cX5_copy 91 = .ok (.aload_n 1, 1) := by decide +kernel
theorem dX5_copy_92 : decode cX5_copy 92 = .ok (.getfield 45, 3) := by decide +kernel
theorem dX5_copy_95 : decode cX5_copy 95 = .ok (.aload_n 1, 1) := by decide +kernel
theorem dX5_copy_96 : decode cX5_copy 96 = .ok (.getfield 48, 3) := by decide +kernel
theorem dX5_copy_99 : decode cX5_copy 99 = .ok (.invokevirtual 74, 3) := by decide +kernel
theorem dX5_copy_102 : decode cX5_copy 102 = .ok (.aload_n 0, 1) := by decide +kernel
theorem dX5_copy_103 : decode cX5_copy 103 = .ok (.aload_n 1, 1) := by decide +kernel
theorem dX5_copy_104 : decode cX5_copy 104 = .ok (.getfield 52, 3) := by decide +kernel
theorem dX5_copy_107 : decode cX5_copy 107 = .ok (.putfield 52, 3) := by decide +kernel
theorem dX5_copy_110 : decode cX5_copy 110 = .ok (.aload_n 0, 1) := by decide +kernel
theorem dX5_copy_111 : decode cX5_copy 111 = .ok (.aload_n 1, 1) := by decide +kernel
theorem dX5_copy_112 : decode cX5_copy 112 = .ok (.getfield 55, 3) := by decide +kernel
theorem dX5_copy_115 : decode cX5_copy 115 = .ok (.putfield 55, 3) := by decide +kernel
theorem dX5_copy_118 : decode cX5_copy 118 = .ok (.return_, 1) := by decide +kernel
theorem dX5_takeList_0 : decode cX5_takeList 0 = .ok (.aload_n 1, 1) := by decide +kernel
theorem dX5_takeList_1 : decode cX5_takeList 1 = .ok (.iconst 0, 1) := by decide +kernel
theorem dX5_takeList_2 : decode cX5_takeList 2 = .ok (.aload_n 0, 1) := by decide +kernel
theorem dX5_takeList_3 : decode cX5_takeList 3 = .ok (.getfield 45, 3) := by decide +kernel
theorem dX5_takeList_6 : decode cX5_takeList 6 = .ok (.iconst 0, 1) := by decide +kernel
theorem dX5_takeList_7 : decode cX5_takeList 7 = .ok (.bipush 48, 2) := by decide +kernel
theorem dX5_takeList_9 : decode cX5_takeList 9 = .ok (.invokestatic 68, 3) := by decide +kernel
theorem dX5_takeList_12 : decode cX5_takeList 12 = .ok (.aload_n 0, 1) := by decide +kernel
theorem dX5_takeList_13 : decode cX5_takeList 13 = .ok (.iload_n 2, 1) := by decide +kernel
theorem dX5_takeList_14 : decode cX5_takeList 14 = .ok (.putfield 48, 3) := by decide +kernel
theorem dX5_takeList_17 : decode cX5_takeList 17 = .ok (.return_, 1) := by decide +kernel
theorem dX5_supplyOf_0 : decode cX5_supplyOf 0 = .ok (.aload_n 0, 1) := by decide +kernel
theorem dX5_supplyOf_1 : decode cX5_supplyOf 1 = .ok (.getfield 48, 3) := by decide +kernel
theorem dX5_supplyOf_4 : decode cX5_supplyOf 4 = .ok (.ifCond .le 19, 3) := by decide +kernel
theorem dX5_supplyOf_7 : decode cX5_supplyOf 7 = .ok (.aload_n 0, 1) := by decide +kernel
theorem dX5_supplyOf_8 : decode cX5_supplyOf 8 = .ok (.getfield 45, 3) := by decide +kernel
theorem dX5_supplyOf_11 : decode cX5_supplyOf 11 = .ok (.iload_n 1, 1) := by decide +kernel
theorem dX5_supplyOf_12 : decode cX5_supplyOf 12 = .ok (.aload_n 0, 1) := by decide +kernel
theorem dX5_supplyOf_13 : decode cX5_supplyOf 13 = .ok (.getfield 48, 3) := by decide +kernel
theorem dX5_supplyOf_16 : decode cX5_supplyOf 16 = .ok (.invokestatic 78, 3) := by decide +kernel
theorem dX5_supplyOf_19 : decode cX5_supplyOf 19 = .ok (.iaload, 1) := by decide +kernel
theorem dX5_supplyOf_20 : decode cX5_supplyOf 20 = .ok (.goto 4, 3) := by decide +kernel
theorem dX5_supplyOf_23 : decode cX5_supplyOf 23 = .ok (.iconst 0, 1) := by decide +kernel
theorem dX5_supplyOf_24 : decode cX5_supplyOf 24 = .ok (.ireturn, 1) := by decide +kernel
theorem dX5_timesShed_0 : decode cX5_timesShed 0 = .ok (.aload_n 0, 1) := by decide +kernel
theorem dX5_timesShed_1 : decode cX5_timesShed 1 = .ok (.getfield 39, 3) := by decide +kernel
theorem dX5_timesShed_4 : decode cX5_timesShed 4 = .ok (.iconst 1, 1) := by decide +kernel
theorem dX5_timesShed_5 : decode cX5_timesShed 5 = .ok (.iaload, 1) := by decide +kernel
theorem dX5_timesShed_6 : decode cX5_timesShed 6 = .ok (.aload_n 0, 1) := by decide +kernel
theorem dX5_timesShed_7 : decode cX5_timesShed 7 = .ok (.getfield 39, 3) := by decide +kernel
theorem dX5_timesShed_10 : decode cX5_timesShed 10 = .ok (.iconst 2, 1) := by decide +kernel
theorem dX5_timesShed_11 : decode cX5_timesShed 11 = .ok (.iaload, 1) := by decide +kernel
theorem dX5_timesShed_12 : decode cX5_timesShed 12 = .ok (.iadd, 1) := by decide +kernel
theorem dX5_timesShed_13 : decode cX5_timesShed 13 = .ok (.ireturn, 1) := by decide +kernel
theorem dX5_partForDebt_0 : decode cX5_partForDebt 0 = .ok (.aload_n 0, 1) := by decide +kernel
theorem dX5_partForDebt_1 : decode cX5_partForDebt 1 = .ok (.getfield 12, 3) := by decide +kernel
theorem dX5_partForDebt_4 : decode cX5_partForDebt 4 = .ok (.getfield 84, 3) := by decide +kernel
theorem dX5_partForDebt_7 : decode cX5_partForDebt 7 = .ok (.iload_n 1, 1) := by decide +kernel
theorem dX5_partForDebt_8 : decode cX5_partForDebt 8 = .ok (.iaload, 1) := by decide +kernel
theorem dX5_partForDebt_9 : decode cX5_partForDebt 9 = .ok (.iload_n 2, 1) := by decide +kernel
theorem dX5_partForDebt_10 : decode cX5_partForDebt 10 = .ok (.aload_n 0, 1) := by decide +kernel
theorem dX5_partForDebt_11 : decode cX5_partForDebt 11 = .ok (.getfield 32, 3) := by decide +kernel
theorem dX5_partForDebt_14 : decode cX5_partForDebt 14 = .ok (.iconst 1, 1) := by decide +kernel
theorem dX5_partForDebt_15 : decode cX5_partForDebt 15 = .ok (.iaload, 1) := by decide +kernel
theorem dX5_partForDebt_16 : decode cX5_partForDebt 16 = .ok (.imul, 1) := by decide +kernel
theorem dX5_partForDebt_17 : decode cX5_partForDebt 17 = .ok (.bipush 100, 2) := by decide +kernel
theorem dX5_partForDebt_19 : decode cX5_partForDebt 19 = .ok (.idiv, 1) := by decide +kernel
theorem dX5_partForDebt_20 : decode cX5_partForDebt 20 = .ok (.invokestatic 87, 3) := by decide +kernel
theorem dX5_partForDebt_23 : decode cX5_partForDebt 23 = .ok (.ireturn, 1) := by decide +kernel
theorem dX5_partForLoans_0 : decode cX5_partForLoans 0 = .ok (.iload_n 2, 1) := by decide +kernel
theorem dX5_partForLoans_1 : decode cX5_partForLoans 1 = .ok (.aload_n 0, 1) := by decide +kernel
theorem dX5_partForLoans_2 : decode cX5_partForLoans 2 = .ok (.iload_n 1, 1) := by decide +kernel
theorem dX5_partForLoans_3 : decode cX5_partForLoans 3 = .ok (.iload_n 2, 1) := by decide +kernel
theorem dX5_partForLoans_4 : decode cX5_partForLoans 4 = .ok (.invokevirtual 90, 3) := by decide +kernel
theorem dX5_partForLoans_7 : decode cX5_partForLoans 7 = .ok (.isub, 1) := by decide +kernel
theorem dX5_partForLoans_8 : decode cX5_partForLoans 8 = .ok (.istore_n 3, 1) := by decide +kernel
theorem dX5_partForLoans_9 : decode cX5_partForLoans 9 = .ok (.aload_n 0, 1) := by decide +kernel
theorem dX5_partForLoans_10 : decode cX5_partForLoans 10 = .ok (.getfield 21, 3) := by decide +kernel
theorem dX5_partForLoans_13 : decode cX5_partForLoans 13 = .ok (.iload_n 1, 1) := by decide +kernel
theorem dX5_partForLoans_14 : decode cX5_partForLoans 14 = .ok (.invokevirtual 93, 3) := by decide +kernel
theorem dX5_partForLoans_17 : decode cX5_partForLoans 17 = .ok (.iload_n 3, 1) := by decide +kernel
theorem dX5_partForLoans_18 : decode cX5_partForLoans 18 = .ok (.aload_n 0, 1) := by decide +kernel
theorem dX5_partForLoans_19 : decode cX5_partForLoans 19 = .ok (.getfield 32, 3) := by decide +kernel
theorem dX5_partForLoans_22 : decode cX5_partForLoans 22 = .ok (.iconst 2, 1) := by decide +kernel
theorem dX5_partForLoans_23 : decode cX5_partForLoans 23 = .ok (.iaload, 1) := by decide +kernel
theorem dX5_partForLoans_24 : decode cX5_partForLoans 24 = .ok (.imul, 1) := by decide +kernel
theorem dX5_partForLoans_25 : decode cX5_partForLoans 25 = .ok (.bipush 100, 2) := by decide +kernel
theorem dX5_partForLoans_27 : decode cX5_partForLoans 27 = .ok (.idiv, 1) := by decide +kernel
theorem dX5_partForLoans_28 : decode cX5_partForLoans 28 = .ok (.invokestatic 87, 3) := by decide +kernel
theorem dX5_partForLoans_31 : decode cX5_partForLoans 31 = .ok (.ireturn, 1) := by decide +kernel
theorem dX5_takeToken_0 : decode cX5_takeToken 0 = .ok (.aload_n 0, 1) := by decide +kernel
theorem dX5_takeToken_1 : decode cX5_takeToken 1 = .ok (.iload_n 1, 1) := by decide +kernel
theorem dX5_takeToken_2 : decode cX5_takeToken 2 = .ok (.iload_n 2, 1) := by decide +kernel
theorem dX5_takeToken_3 : decode cX5_takeToken 3 = .ok (.invokevirtual 90, 3) := by decide +kernel
theorem dX5_takeToken_6 : decode cX5_takeToken 6 = .ok (.istore_n 3, 1) := by decide +kernel
theorem dX5_takeToken_7 : decode cX5_takeToken 7 = .ok (.aload_n 0, 1) := by decide +kernel
theorem dX5_takeToken_8 : decode cX5_takeToken 8 = .ok (.iload_n 1, 1) := by decide +kernel
theorem dX5_takeToken_9 : decode cX5_takeToken 9 = .ok (.iload_n 2, 1) := by decide +kernel
theorem dX5_takeToken_10 : decode cX5_takeToken 10 = .ok (.invokevirtual 97, 3) := by decide +kernel
theorem dX5_takeToken_13 : decode cX5_takeToken 13 = .ok (.istore 4, 2) := by decide +kernel
theorem dX5_takeToken_15 : decode cX5_takeToken 15 = .ok (.aload_n 0, 1) := by decide +kernel
theorem dX5_takeToken_16 : decode cX5_takeToken 16 = .ok (.getfield 12, 3) := by decide +kernel
theorem dX5_takeToken_19 : decode cX5_takeToken 19 = .ok (.getfield 84, 3) := by decide +kernel
theorem dX5_takeToken_22 : decode cX5_takeToken 22 = .ok (.iload_n 1, 1) := by decide +kernel
theorem dX5_takeToken_23 : decode cX5_takeToken 23 = .ok (.dup2, 1) := by decide +kernel
theorem dX5_takeToken_24 : decode cX5_takeToken 24 = .ok (.iaload, 1) := by decide +kernel
theorem dX5_takeToken_25 : decode cX5_takeToken 25 = .ok (.iload_n 3, 1) := by decide +kernel
theorem dX5_takeToken_26 : decode cX5_takeToken 26 = .ok (.isub, 1) := by decide +kernel
theorem dX5_takeToken_27 : decode cX5_takeToken 27 = .ok (.iastore, 1) := by decide +kernel
theorem dX5_takeToken_28 : decode cX5_takeToken 28 = .ok (.aload_n 0, 1) := by decide +kernel
theorem dX5_takeToken_29 : decode cX5_takeToken 29 = .ok (.iload_n 1, 1) := by decide +kernel
theorem dX5_takeToken_30 : decode cX5_takeToken 30 = .ok (.iload 4, 2) := by decide +kernel
theorem dX5_takeToken_32 : decode cX5_takeToken 32 = .ok (.invokevirtual 100, 3) := by decide +kernel
theorem dX5_takeToken_35 : decode cX5_takeToken 35 = .ok (.aload_n 0, 1) := by decide +kernel
theorem dX5_takeToken_36 : decode cX5_takeToken 36 = .ok (.getfield 12, 3) := by decide +kernel
theorem dX5_takeToken_39 : decode cX5_takeToken 39 = .ok (.getfield 104, 3) := by decide +kernel
theorem dX5_takeToken_42 : decode cX5_takeToken 42 = .ok (.iload_n 1, 1) := by decide +kernel
theorem dX5_takeToken_43 : decode cX5_takeToken 43 = .ok (.dup2, 1) := by decide +kernel
theorem dX5_takeToken_44 : decode cX5_takeToken 44 = .ok (.iaload, 1) := by decide +kernel
theorem dX5_takeToken_45 : decode cX5_takeToken 45 = .ok (.iload_n 2, 1) := by decide +kernel
theorem dX5_takeToken_46 : decode cX5_takeToken 46 = .ok (.iload_n 3, 1) := by decide +kernel
theorem dX5_takeToken_47 : decode cX5_takeToken 47 = .ok (.isub, 1) := by decide +kernel
theorem dX5_takeToken_48 : decode cX5_takeToken 48 = .ok (.iload 4, 2) := by decide +kernel
theorem dX5_takeToken_50 : decode cX5_takeToken 50 = .ok (.isub, 1) := by decide +kernel
theorem dX5_takeToken_51 : decode cX5_takeToken 51 = .ok (.iadd, 1) := by decide +kernel
theorem dX5_takeToken_52 : decode cX5_takeToken 52 = .ok (.iastore, 1) := by decide +kernel
theorem dX5_takeToken_53 : decode cX5_takeToken 53 = .ok (.aload_n 0, 1) := by decide +kernel
theorem dX5_takeToken_54 : decode cX5_takeToken 54 = .ok (.getfield 36, 3) := by decide +kernel
theorem dX5_takeToken_57 : decode cX5_takeToken 57 = .ok (.bipush 6, 2) := by decide +kernel
theorem dX5_takeToken_59 : decode cX5_takeToken 59 = .ok (.dup2, 1) := by decide +kernel
theorem dX5_takeToken_60 : decode cX5_takeToken 60 = .ok (.iaload, 1) := by decide +kernel
theorem dX5_takeToken_61 : decode cX5_takeToken 61 = .ok (.iload_n 2, 1) := by decide +kernel
theorem dX5_takeToken_62 : decode cX5_takeToken 62 = .ok (.iadd, 1) := by decide +kernel
theorem dX5_takeToken_63 : decode cX5_takeToken 63 = .ok (.iastore, 1) := by decide +kernel
theorem dX5_takeToken_64 : decode cX5_takeToken 64 = .ok (.aload_n 0, 1) := by decide +kernel
theorem dX5_takeToken_65 : decode cX5_takeToken 65 = .ok (.getfield 36, 3) := by decide +kernel
theorem dX5_takeToken_68 : decode cX5_takeToken 68 = .ok (.bipush 7, 2) := by decide +kernel
theorem dX5_takeToken_70 : decode cX5_takeToken 70 = .ok (.dup2, 1) := by decide +kernel
theorem dX5_takeToken_71 : decode cX5_takeToken 71 = .ok (.iaload, 1) := by decide +kernel
theorem dX5_takeToken_72 : decode cX5_takeToken 72 = .ok (.iload_n 3, 1) := by decide +kernel
theorem dX5_takeToken_73 : decode cX5_takeToken 73 = .ok (.iadd, 1) := by decide +kernel
theorem dX5_takeToken_74 : decode cX5_takeToken 74 = .ok (.iastore, 1) := by decide +kernel
theorem dX5_takeToken_75 : decode cX5_takeToken 75 = .ok (.return_, 1) := by decide +kernel
theorem dX5_payLoans_0 : decode cX5_payLoans 0 = .ok (.iload_n 2, 1) := by decide +kernel
theorem dX5_payLoans_1 : decode cX5_payLoans 1 = .ok (.istore_n 3, 1) := by decide +kernel
theorem dX5_payLoans_2 : decode cX5_payLoans 2 = .ok (.iconst 0, 1) := by decide +kernel
theorem dX5_payLoans_3 : decode cX5_payLoans 3 = .ok (.istore 4, 2) := by decide +kernel
theorem dX5_payLoans_5 : decode cX5_payLoans 5 = .ok (.iload 4, 2) := by decide +kernel
theorem dX5_payLoans_7 : decode cX5_payLoans 7 = .ok (.aload_n 0, 1) := by decide +kernel
theorem dX5_payLoans_8 : decode cX5_payLoans 8 = .ok (.getfield 21, 3) := by decide +kernel
theorem dX5_payLoans_11 : decode cX5_payLoans 11 = .ok (.getfield 107, 3) := by decide +kernel
theorem dX5_payLoans_14 : decode cX5_payLoans 14 = .ok (.if_icmp .ge 82, 3) := by decide +kernel
theorem dX5_payLoans_17 : decode cX5_payLoans 17 = .ok (.aload_n 0, 1) := by decide +kernel
theorem dX5_payLoans_18 : decode cX5_payLoans 18 = .ok (.getfield 21, 3) := by decide +kernel
theorem dX5_payLoans_21 : decode cX5_payLoans 21 = .ok (.getfield 110, 3) := by decide +kernel
theorem dX5_payLoans_24 : decode cX5_payLoans 24 = .ok (.iload 4, 2) := by decide +kernel
theorem dX5_payLoans_26 : decode cX5_payLoans 26 = .ok (.iaload, 1) := by decide +kernel
theorem dX5_payLoans_27 : decode cX5_payLoans 27 = .ok (.iload_n 1, 1) := by decide +kernel
theorem dX5_payLoans_28 : decode cX5_payLoans 28 = .ok (.if_icmp .ne 62, 3) := by decide +kernel
theorem dX5_payLoans_31 : decode cX5_payLoans 31 = .ok (.iload_n 3, 1) := by decide +kernel
theorem dX5_payLoans_32 : decode cX5_payLoans 32 = .ok (.aload_n 0, 1) := by decide +kernel
theorem dX5_payLoans_33 : decode cX5_payLoans 33 = .ok (.getfield 21, 3) := by decide +kernel
theorem dX5_payLoans_36 : decode cX5_payLoans 36 = .ok (.getfield 113, 3) := by decide +kernel
theorem dX5_payLoans_39 : decode cX5_payLoans 39 = .ok (.iload 4, 2) := by decide +kernel
theorem dX5_payLoans_41 : decode cX5_payLoans 41 = .ok (.iaload, 1) := by decide +kernel
theorem dX5_payLoans_42 : decode cX5_payLoans 42 = .ok (.invokestatic 87, 3) := by decide +kernel
theorem dX5_payLoans_45 : decode cX5_payLoans 45 = .ok (.istore 5, 2) := by decide +kernel
theorem dX5_payLoans_47 : decode cX5_payLoans 47 = .ok (.aload_n 0, 1) := by decide +kernel
theorem dX5_payLoans_48 : decode cX5_payLoans 48 = .ok (.getfield 21, 3) := by decide +kernel
theorem dX5_payLoans_51 : decode cX5_payLoans 51 = .ok (.getfield 113, 3) := by decide +kernel
theorem dX5_payLoans_54 : decode cX5_payLoans 54 = .ok (.iload 4, 2) := by decide +kernel
theorem dX5_payLoans_56 : decode cX5_payLoans 56 = .ok (.dup2, 1) := by decide +kernel
theorem dX5_payLoans_57 : decode cX5_payLoans 57 = .ok (.iaload, 1) := by decide +kernel
theorem dX5_payLoans_58 : decode cX5_payLoans 58 = .ok (.iload 5, 2) := by decide +kernel
theorem dX5_payLoans_60 : decode cX5_payLoans 60 = .ok (.isub, 1) := by decide +kernel
theorem dX5_payLoans_61 : decode cX5_payLoans 61 = .ok (.iastore, 1) := by decide +kernel
theorem dX5_payLoans_62 : decode cX5_payLoans 62 = .ok (.aload_n 0, 1) := by decide +kernel
theorem dX5_payLoans_63 : decode cX5_payLoans 63 = .ok (.getfield 12, 3) := by decide +kernel
theorem dX5_payLoans_66 : decode cX5_payLoans 66 = .ok (.getfield 104, 3) := by decide +kernel
theorem dX5_payLoans_69 : decode cX5_payLoans 69 = .ok (.aload_n 0, 1) := by decide +kernel
theorem dX5_payLoans_70 : decode cX5_payLoans 70 = .ok (.getfield 21, 3) := by decide +kernel
theorem dX5_payLoans_73 : decode cX5_payLoans 73 = .ok (.getfield 116, 3) := by decide +kernel
theorem dX5_payLoans_76 : decode cX5_payLoans 76 = .ok (.iload 4, 2) := by decide +kernel
theorem dX5_payLoans_78 : decode cX5_payLoans 78 = .ok (.iaload, 1) := by decide +kernel
theorem dX5_payLoans_79 : decode cX5_payLoans 79 = .ok (.dup2, 1) := by decide +kernel
theorem dX5_payLoans_80 : decode cX5_payLoans 80 = .ok (.iaload, 1) := by decide +kernel
theorem dX5_payLoans_81 : decode cX5_payLoans 81 = .ok (.iload 5, 2) := by decide +kernel
theorem dX5_payLoans_83 : decode cX5_payLoans 83 = .ok (.iadd, 1) := by decide +kernel
theorem dX5_payLoans_84 : decode cX5_payLoans 84 = .ok (.iastore, 1) := by decide +kernel
theorem dX5_payLoans_85 : decode cX5_payLoans 85 = .ok (.iload_n 3, 1) := by decide +kernel
theorem dX5_payLoans_86 : decode cX5_payLoans 86 = .ok (.iload 5, 2) := by decide +kernel
theorem dX5_payLoans_88 : decode cX5_payLoans 88 = .ok (.isub, 1) := by decide +kernel
theorem dX5_payLoans_89 : decode cX5_payLoans 89 = .ok (.istore_n 3, 1) := by decide +kernel
theorem dX5_payLoans_90 : decode cX5_payLoans 90 = .ok (.iinc 4 1, 3) := by decide +kernel
theorem dX5_payLoans_93 : decode cX5_payLoans 93 = .ok (.goto (-88), 3) := by decide +kernel
theorem dX5_payLoans_96 : decode cX5_payLoans 96 = .ok (.aload_n 0, 1) := by decide +kernel
theorem dX5_payLoans_97 : decode cX5_payLoans 97 = .ok (.getfield 21, 3) := by decide +kernel
theorem dX5_payLoans_100 : decode cX5_payLoans 100 = .ok (.invokevirtual 119, 3) := by decide +kernel
theorem dX5_payLoans_103 : decode cX5_payLoans 103 = .ok (.return_, 1) := by decide +kernel
theorem dX5_affords_0 : decode cX5_affords 0 = .ok (.aload_n 0, 1) := by decide +kernel
theorem dX5_affords_1 : decode cX5_affords 1 = .ok (.getfield 12, 3) := by decide +kernel
theorem dX5_affords_4 : decode cX5_affords 4 = .ok (.getfield 122, 3) := by decide +kernel
theorem dX5_affords_7 : decode cX5_affords 7 = .ok (.iload_n 1, 1) := by decide +kernel
theorem dX5_affords_8 : decode cX5_affords 8 = .ok (.iaload, 1) := by decide +kernel
theorem dX5_affords_9 : decode cX5_affords 9 = .ok (.istore 4, 2) := by decide +kernel
theorem dX5_affords_11 : decode cX5_affords 11 = .ok (.iload_n 2, 1) := by decide +kernel
theorem dX5_affords_12 : decode cX5_affords 12 = .ok (.aload_n 0, 1) := by decide +kernel
theorem dX5_affords_13 : decode cX5_affords 13 = .ok (.iload_n 1, 1) := by decide +kernel
theorem dX5_affords_14 : decode cX5_affords 14 = .ok (.iload_n 2, 1) := by decide +kernel
theorem dX5_affords_15 : decode cX5_affords 15 = .ok (.invokevirtual 90, 3) := by decide +kernel
theorem dX5_affords_18 : decode cX5_affords 18 = .ok (.isub, 1) := by decide +kernel
theorem dX5_affords_19 : decode cX5_affords 19 = .ok (.aload_n 0, 1) := by decide +kernel
theorem dX5_affords_20 : decode cX5_affords 20 = .ok (.iload_n 1, 1) := by decide +kernel
theorem dX5_affords_21 : decode cX5_affords 21 = .ok (.iload_n 2, 1) := by decide +kernel
theorem dX5_affords_22 : decode cX5_affords 22 = .ok (.invokevirtual 97, 3) := by decide +kernel
theorem dX5_affords_25 : decode cX5_affords 25 = .ok (.isub, 1) := by decide +kernel
theorem dX5_affords_26 : decode cX5_affords 26 = .ok (.istore 5, 2) := by decide +kernel
theorem dX5_affords_28 : decode cX5_affords 28 = .ok (.iload 4, 2) := by decide +kernel
theorem dX5_affords_30 : decode cX5_affords 30 = .ok (.ifCond .eq 29, 3) := by decide +kernel
theorem dX5_affords_33 : decode cX5_affords 33 = .ok (.aload_n 0, 1) := by decide +kernel
theorem dX5_affords_34 : decode cX5_affords 34 = .ok (.getfield 12, 3) := by decide +kernel
theorem dX5_affords_37 : decode cX5_affords 37 = .ok (.getfield 104, 3) := by decide +kernel
theorem dX5_affords_40 : decode cX5_affords 40 = .ok (.iload_n 1, 1) := by decide +kernel
theorem dX5_affords_41 : decode cX5_affords 41 = .ok (.iaload, 1) := by decide +kernel
theorem dX5_affords_42 : decode cX5_affords 42 = .ok (.iload 5, 2) := by decide +kernel
theorem dX5_affords_44 : decode cX5_affords 44 = .ok (.iadd, 1) := by decide +kernel
theorem dX5_affords_45 : decode cX5_affords 45 = .ok (.aload_n 0, 1) := by decide +kernel
theorem dX5_affords_46 : decode cX5_affords 46 = .ok (.getfield 32, 3) := by decide +kernel
theorem dX5_affords_49 : decode cX5_affords 49 = .ok (.iconst 0, 1) := by decide +kernel
theorem dX5_affords_50 : decode cX5_affords 50 = .ok (.iaload, 1) := by decide +kernel
theorem dX5_affords_51 : decode cX5_affords 51 = .ok (.iadd, 1) := by decide +kernel
theorem dX5_affords_52 : decode cX5_affords 52 = .ok (.iload_n 3, 1) := by decide +kernel
theorem dX5_affords_53 : decode cX5_affords 53 = .ok (.iload 4, 2) := by decide +kernel
theorem dX5_affords_55 : decode cX5_affords 55 = .ok (.imul, 1) := by decide +kernel
theorem dX5_affords_56 : decode cX5_affords 56 = .ok (.if_icmp .lt 7, 3) := by decide +kernel
theorem dX5_affords_59 : decode cX5_affords 59 = .ok (.iconst 1, 1) := by decide +kernel
theorem dX5_affords_60 : decode cX5_affords 60 = .ok (.goto 4, 3) := by decide +kernel
theorem dX5_affords_63 : decode cX5_affords 63 = .ok (.iconst 0, 1) := by decide +kernel
theorem dX5_affords_64 : decode cX5_affords 64 = .ok (.ireturn, 1) := by decide +kernel
theorem dX5_passHours_0 : decode cX5_passHours 0 = .ok (.iconst 0, 1) := by decide +kernel
theorem dX5_passHours_1 : decode cX5_passHours 1 = .ok (.istore_n 2, 1) := by decide +kernel
theorem dX5_passHours_2 : decode cX5_passHours 2 = .ok (.iload_n 2, 1) := by decide +kernel
theorem dX5_passHours_3 : decode cX5_passHours 3 = .ok (.iload_n 1, 1) := by decide +kernel
theorem dX5_passHours_4 : decode cX5_passHours 4 = .ok (.if_icmp .ge 13, 3) := by decide +kernel
theorem dX5_passHours_7 : decode cX5_passHours 7 = .ok (.aload_n 0, 1) := by decide +kernel
theorem dX5_passHours_8 : decode cX5_passHours 8 = .ok (.invokevirtual 125, 3) := by decide +kernel
theorem dX5_passHours_11 : decode cX5_passHours 11 = .ok (.iinc 2 1, 3) := by decide +kernel
theorem dX5_passHours_14 : decode cX5_passHours 14 = .ok (.goto (-12), 3) := by decide +kernel
theorem dX5_passHours_17 : decode cX5_passHours 17 = .ok (.return_, 1) := by decide +kernel
theorem dX5_hoursMet_0 : decode cX5_hoursMet 0 = .ok (.iconst 0, 1) := by decide +kernel
theorem dX5_hoursMet_1 : decode cX5_hoursMet 1 = .ok (.istore_n 3, 1) := by decide +kernel
theorem dX5_hoursMet_2 : decode cX5_hoursMet 2 = .ok (.iload_n 3, 1) := by decide +kernel
theorem dX5_hoursMet_3 : decode cX5_hoursMet 3 = .ok (.iload_n 2, 1) := by decide +kernel
theorem dX5_hoursMet_4 : decode cX5_hoursMet 4 = .ok (.if_icmp .ge 36, 3) := by decide +kernel
theorem dX5_hoursMet_7 : decode cX5_hoursMet 7 = .ok (.aload_n 0, 1) := by decide +kernel
theorem dX5_hoursMet_8 : decode cX5_hoursMet 8 = .ok (.invokevirtual 125, 3) := by decide +kernel
theorem dX5_hoursMet_11 : decode cX5_hoursMet 11 = .ok (.aload_n 0, 1) := by decide +kernel
theorem dX5_hoursMet_12 : decode cX5_hoursMet 12 = .ok (.getfield 12, 3) := by decide +kernel
theorem dX5_hoursMet_15 : decode cX5_hoursMet 15 = .ok (.getfield 128, 3) := by decide +kernel
theorem dX5_hoursMet_18 : decode cX5_hoursMet 18 = .ok (.iload_n 1, 1) := by decide +kernel
theorem dX5_hoursMet_19 : decode cX5_hoursMet 19 = .ok (.iaload, 1) := by decide +kernel
theorem dX5_hoursMet_20 : decode cX5_hoursMet 20 = .ok (.aload_n 0, 1) := by decide +kernel
theorem dX5_hoursMet_21 : decode cX5_hoursMet 21 = .ok (.getfield 12, 3) := by decide +kernel
theorem dX5_hoursMet_24 : decode cX5_hoursMet 24 = .ok (.getfield 122, 3) := by decide +kernel
theorem dX5_hoursMet_27 : decode cX5_hoursMet 27 = .ok (.iload_n 1, 1) := by decide +kernel
theorem dX5_hoursMet_28 : decode cX5_hoursMet 28 = .ok (.iaload, 1) := by decide +kernel
theorem dX5_hoursMet_29 : decode cX5_hoursMet 29 = .ok (.if_icmp .ge 5, 3) := by decide +kernel
theorem dX5_hoursMet_32 : decode cX5_hoursMet 32 = .ok (.iload_n 3, 1) := by decide +kernel
theorem dX5_hoursMet_33 : decode cX5_hoursMet 33 = .ok (.ireturn, 1) := by decide +kernel
theorem dX5_hoursMet_34 : decode cX5_hoursMet 34 = .ok (.iinc 3 1, 3) := by decide +kernel
theorem dX5_hoursMet_37 : decode cX5_hoursMet 37 = .ok (.goto (-35), 3) := by decide +kernel
theorem dX5_hoursMet_40 : decode cX5_hoursMet 40 = .ok (.iload_n 2, 1) := by decide +kernel
theorem dX5_hoursMet_41 : decode cX5_hoursMet 41 = .ok (.ireturn, 1) := by decide +kernel
theorem dX5_passHour_0 : decode cX5_passHour 0 = .ok (.aload_n 0, 1) := by decide +kernel
theorem dX5_passHour_1 : decode cX5_passHour 1 = .ok (.aload_n 0, 1) := by decide +kernel
theorem dX5_passHour_2 : decode cX5_passHour 2 = .ok (.getfield 52, 3) := by decide +kernel
theorem dX5_passHour_5 : decode cX5_passHour 5 = .ok (.invokevirtual 131, 3) := by decide +kernel
theorem dX5_passHour_8 : decode cX5_passHour 8 = .ok (.istore_n 1, 1) := by decide +kernel
theorem dX5_passHour_9 : decode cX5_passHour 9 = .ok (.iload_n 1, 1) := by decide +kernel
theorem dX5_passHour_10 : decode cX5_passHour 10 = .ok (.aload_n 0, 1) := by decide +kernel
theorem dX5_passHour_11 : decode cX5_passHour 11 = .ok (.getfield 28, 3) := by decide +kernel
theorem dX5_passHour_14 : decode cX5_passHour 14 = .ok (.invokevirtual 134, 3) := by decide +kernel
theorem dX5_passHour_17 : decode cX5_passHour 17 = .ok (.iadd, 1) := by decide +kernel
theorem dX5_passHour_18 : decode cX5_passHour 18 = .ok (.istore_n 2, 1) := by decide +kernel
theorem dX5_passHour_19 : decode cX5_passHour 19 = .ok (.aload_n 0, 1) := by decide +kernel
theorem dX5_passHour_20 : decode cX5_passHour 20 = .ok (.getfield 12, 3) := by decide +kernel
theorem dX5_passHour_23 : decode cX5_passHour 23 = .ok (.aload_n 0, 1) := by decide +kernel
theorem dX5_passHour_24 : decode cX5_passHour 24 = .ok (.getfield 32, 3) := by decide +kernel
theorem dX5_passHour_27 : decode cX5_passHour 27 = .ok (.iconst 0, 1) := by decide +kernel
theorem dX5_passHour_28 : decode cX5_passHour 28 = .ok (.iaload, 1) := by decide +kernel
theorem dX5_passHour_29 : decode cX5_passHour 29 = .ok (.invokevirtual 138, 3) := by decide +kernel
theorem dX5_passHour_32 : decode cX5_passHour 32 = .ok (.aload_n 0, 1) := by decide +kernel
theorem dX5_passHour_33 : decode cX5_passHour 33 = .ok (.iload_n 2, 1) := by decide +kernel
theorem dX5_passHour_34 : decode cX5_passHour 34 = .ok (.invokevirtual 142, 3) := by decide +kernel
theorem dX5_passHour_37 : decode cX5_passHour 37 = .ok (.aload_n 0, 1) := by decide +kernel
theorem dX5_passHour_38 : decode cX5_passHour 38 = .ok (.iload_n 2, 1) := by decide +kernel
theorem dX5_passHour_39 : decode cX5_passHour 39 = .ok (.invokevirtual 145, 3) := by decide +kernel
theorem dX5_passHour_42 : decode cX5_passHour 42 = .ok (.istore_n 3, 1) := by decide +kernel
theorem dX5_passHour_43 : decode cX5_passHour 43 = .ok (.aload_n 0, 1) := by decide +kernel
theorem dX5_passHour_44 : decode cX5_passHour 44 = .ok (.getfield 36, 3) := by decide +kernel
theorem dX5_passHour_47 : decode cX5_passHour 47 = .ok (.iconst 0, 1) := by decide +kernel
theorem dX5_passHour_48 : decode cX5_passHour 48 = .ok (.dup2, 1) := by decide +kernel
theorem dX5_passHour_49 : decode cX5_passHour 49 = .ok (.iaload, 1) := by decide +kernel
theorem dX5_passHour_50 : decode cX5_passHour 50 = .ok (.iload_n 1, 1) := by decide +kernel
theorem dX5_passHour_51 : decode cX5_passHour 51 = .ok (.iadd, 1) := by decide +kernel
theorem dX5_passHour_52 : decode cX5_passHour 52 = .ok (.iastore, 1) := by decide +kernel
theorem dX5_passHour_53 : decode cX5_passHour 53 = .ok (.aload_n 0, 1) := by decide +kernel
theorem dX5_passHour_54 : decode cX5_passHour 54 = .ok (.getfield 36, 3) := by decide +kernel
theorem dX5_passHour_57 : decode cX5_passHour 57 = .ok (.iconst 1, 1) := by decide +kernel
theorem dX5_passHour_58 : decode cX5_passHour 58 = .ok (.dup2, 1) := by decide +kernel
theorem dX5_passHour_59 : decode cX5_passHour 59 = .ok (.iaload, 1) := by decide +kernel
theorem dX5_passHour_60 : decode cX5_passHour 60 = .ok (.iload_n 3, 1) := by decide +kernel
theorem dX5_passHour_61 : decode cX5_passHour 61 = .ok (.iadd, 1) := by decide +kernel
theorem dX5_passHour_62 : decode cX5_passHour 62 = .ok (.iastore, 1) := by decide +kernel
theorem dX5_passHour_63 : decode cX5_passHour 63 = .ok (.iload_n 3, 1) := by decide +kernel
theorem dX5_passHour_64 : decode cX5_passHour 64 = .ok (.iload_n 1, 1) := by decide +kernel
theorem dX5_passHour_65 : decode cX5_passHour 65 = .ok (.if_icmp .le 16, 3) := by decide +kernel
theorem dX5_passHour_68 : decode cX5_passHour 68 = .ok (.aload_n 0, 1) := by decide +kernel
theorem dX5_passHour_69 : decode cX5_passHour 69 = .ok (.getfield 28, 3) := by decide +kernel
theorem dX5_passHour_72 : decode cX5_passHour 72 = .ok (.iload_n 3, 1) := by decide +kernel
theorem dX5_passHour_73 : decode cX5_passHour 73 = .ok (.iload_n 1, 1) := by decide +kernel
theorem dX5_passHour_74 : decode cX5_passHour 74 = .ok (.isub, 1) := by decide +kernel
theorem dX5_passHour_75 : decode cX5_passHour 75 = .ok (.invokevirtual 148, 3) := by decide +kernel
theorem dX5_passHour_78 : decode cX5_passHour 78 = .ok (.goto 10, 3) := by decide +kernel
theorem dX5_passHour_81 : decode cX5_passHour 81 = .ok (.aload_n 0, 1) := by decide +kernel
theorem dX5_passHour_82 : decode cX5_passHour 82 = .ok (.iload_n 1, 1) := by decide +kernel
theorem dX5_passHour_83 : decode cX5_passHour 83 = .ok (.iload_n 3, 1) := by decide +kernel
theorem dX5_passHour_84 : decode cX5_passHour 84 = .ok (.isub, 1) := by decide +kernel
theorem dX5_passHour_85 : decode cX5_passHour 85 = .ok (.invokevirtual 151, 3) := by decide +kernel
theorem dX5_passHour_88 : decode cX5_passHour 88 = .ok (.aload_n 0, 1) := by decide +kernel
theorem dX5_passHour_89 : decode cX5_passHour 89 = .ok (.dup, 1) := by decide +kernel
theorem dX5_passHour_90 : decode cX5_passHour 90 = .ok (.getfield 52, 3) := by decide +kernel
theorem dX5_passHour_93 : decode cX5_passHour 93 = .ok (.iconst 1, 1) := by decide +kernel
theorem dX5_passHour_94 : decode cX5_passHour 94 = .ok (.iadd, 1) := by decide +kernel
theorem dX5_passHour_95 : decode cX5_passHour 95 = .ok (.putfield 52, 3) := by decide +kernel
theorem dX5_passHour_98 : decode cX5_passHour 98 = .ok (.return_, 1) := by decide +kernel
theorem dX5_shed_0 : decode cX5_shed 0 = .ok (.iconst 0, 1) := by decide +kernel
theorem dX5_shed_1 : decode cX5_shed 1 = .ok (.istore_n 2, 1) := by decide +kernel
theorem dX5_shed_2 : decode cX5_shed 2 = .ok (.iload_n 2, 1) := by decide +kernel
theorem dX5_shed_3 : decode cX5_shed 3 = .ok (.iconst 3, 1) := by decide +kernel
theorem dX5_shed_4 : decode cX5_shed 4 = .ok (.if_icmp .ge 16, 3) := by decide +kernel
theorem dX5_shed_7 : decode cX5_shed 7 = .ok (.aload_n 0, 1) := by decide +kernel
theorem dX5_shed_8 : decode cX5_shed 8 = .ok (.getfield 42, 3) := by decide +kernel
theorem dX5_shed_11 : decode cX5_shed 11 = .ok (.iload_n 2, 1) := by decide +kernel
theorem dX5_shed_12 : decode cX5_shed 12 = .ok (.iconst 0, 1) := by decide +kernel
theorem dX5_shed_13 : decode cX5_shed 13 = .ok (.iastore, 1) := by decide +kernel
theorem dX5_shed_14 : decode cX5_shed 14 = .ok (.iinc 2 1, 3) := by decide +kernel
theorem dX5_shed_17 : decode cX5_shed 17 = .ok (.goto (-15), 3) := by decide +kernel
theorem dX5_shed_20 : decode cX5_shed 20 = .ok (.iconst 0, 1) := by decide +kernel
theorem dX5_shed_21 : decode cX5_shed 21 = .ok (.istore_n 2, 1) := by decide +kernel
theorem dX5_shed_22 : decode cX5_shed 22 = .ok (.iload_n 2, 1) := by decide +kernel
theorem dX5_shed_23 : decode cX5_shed 23 = .ok (.iconst 2, 1) := by decide +kernel
theorem dX5_shed_24 : decode cX5_shed 24 = .ok (.if_icmp .ge 99, 3) := by decide +kernel
theorem dX5_shed_27 : decode cX5_shed 27 = .ok (.aload_n 0, 1) := by decide +kernel
theorem dX5_shed_28 : decode cX5_shed 28 = .ok (.getfield 12, 3) := by decide +kernel
theorem dX5_shed_31 : decode cX5_shed 31 = .ok (.aload_n 0, 1) := by decide +kernel
theorem dX5_shed_32 : decode cX5_shed 32 = .ok (.getfield 12, 3) := by decide +kernel
theorem dX5_shed_35 : decode cX5_shed 35 = .ok (.getfield 154, 3) := by decide +kernel
theorem dX5_shed_38 : decode cX5_shed 38 = .ok (.invokevirtual 157, 3) := by decide +kernel
theorem dX5_shed_41 : decode cX5_shed 41 = .ok (.iload_n 1, 1) := by decide +kernel
theorem dX5_shed_42 : decode cX5_shed 42 = .ok (.if_icmp .le 81, 3) := by decide +kernel
theorem dX5_shed_45 : decode cX5_shed 45 = .ok (.aload_n 0, 1) := by decide +kernel
theorem dX5_shed_46 : decode cX5_shed 46 = .ok (.getfield 12, 3) := by decide +kernel
theorem dX5_shed_49 : decode cX5_shed 49 = .ok (.aload_n 0, 1) := by decide +kernel
theorem dX5_shed_50 : decode cX5_shed 50 = .ok (.getfield 55, 3) := by decide +kernel
theorem dX5_shed_53 : decode cX5_shed 53 = .ok (.aload_n 0, 1) := by decide +kernel
theorem dX5_shed_54 : decode cX5_shed 54 = .ok (.getfield 12, 3) := by decide +kernel
theorem dX5_shed_57 : decode cX5_shed 57 = .ok (.getfield 154, 3) := by decide +kernel
theorem dX5_shed_60 : decode cX5_shed 60 = .ok (.invokevirtual 161, 3) := by decide +kernel
theorem dX5_shed_63 : decode cX5_shed 63 = .ok (.ifCond .le 37, 3) := by decide +kernel
theorem dX5_shed_66 : decode cX5_shed 66 = .ok (.aload_n 0, 1) := by decide +kernel
theorem dX5_shed_67 : decode cX5_shed 67 = .ok (.getfield 12, 3) := by decide +kernel
theorem dX5_shed_70 : decode cX5_shed 70 = .ok (.aload_n 0, 1) := by decide +kernel
theorem dX5_shed_71 : decode cX5_shed 71 = .ok (.getfield 55, 3) := by decide +kernel
theorem dX5_shed_74 : decode cX5_shed 74 = .ok (.invokevirtual 165, 3) := by decide +kernel
theorem dX5_shed_77 : decode cX5_shed 77 = .ok (.aload_n 0, 1) := by decide +kernel
theorem dX5_shed_78 : decode cX5_shed 78 = .ok (.getfield 42, 3) := by decide +kernel
theorem dX5_shed_81 : decode cX5_shed 81 = .ok (.aload_n 0, 1) := by decide +kernel
theorem dX5_shed_82 : decode cX5_shed 82 = .ok (.getfield 55, 3) := by decide +kernel
theorem dX5_shed_85 : decode cX5_shed 85 = .ok (.iconst 1, 1) := by decide +kernel
theorem dX5_shed_86 : decode cX5_shed 86 = .ok (.iastore, 1) := by decide +kernel
theorem dX5_shed_87 : decode cX5_shed 87 = .ok (.aload_n 0, 1) := by decide +kernel
theorem dX5_shed_88 : decode cX5_shed 88 = .ok (.getfield 39, 3) := by decide +kernel
theorem dX5_shed_91 : decode cX5_shed 91 = .ok (.aload_n 0, 1) := by decide +kernel
theorem dX5_shed_92 : decode cX5_shed 92 = .ok (.getfield 55, 3) := by decide +kernel
theorem dX5_shed_95 : decode cX5_shed 95 = .ok (.dup2, 1) := by decide +kernel
theorem dX5_shed_96 : decode cX5_shed 96 = .ok (.iaload, 1) := by decide +kernel
theorem dX5_shed_97 : decode cX5_shed 97 = .ok (.iconst 1, 1) := by decide +kernel
theorem dX5_shed_98 : decode cX5_shed 98 = .ok (.iadd, 1) := by decide +kernel
theorem dX5_shed_99 : decode cX5_shed 99 = .ok (.iastore, 1) := by decide +kernel
theorem dX5_shed_100 : decode cX5_shed 100 = .ok (.aload_n 0, 1) := by decide +kernel
theorem dX5_shed_101 : decode cX5_shed 101 = .ok (.aload_n 0, 1) := by decide +kernel
theorem dX5_shed_102 : decode cX5_shed 102 = .ok (.getfield 55, 3) := by decide +kernel
theorem dX5_shed_105 : decode cX5_shed 105 = .ok (.iconst 1, 1) := by decide +kernel
theorem dX5_shed_106 : decode cX5_shed 106 = .ok (.if_icmp .ne 7, 3) := by decide +kernel
theorem dX5_shed_109 : decode cX5_shed 109 = .ok (.iconst 2, 1) := by decide +kernel
theorem dX5_shed_110 : decode cX5_shed 110 = .ok (.goto 4, 3) := by decide +kernel
theorem dX5_shed_113 : decode cX5_shed 113 = .ok (.iconst 1, 1) := by decide +kernel
theorem dX5_shed_114 : decode cX5_shed 114 = .ok (.putfield 55, 3) := by decide +kernel
theorem dX5_shed_117 : decode cX5_shed 117 = .ok (.iinc 2 1, 3) := by decide +kernel
theorem dX5_shed_120 : decode cX5_shed 120 = .ok (.goto (-98), 3) := by decide +kernel
theorem dX5_shed_123 : decode cX5_shed 123 = .ok (.return_, 1) := by decide +kernel
theorem dX5_serve_0 : decode cX5_serve 0 = .ok (.iload_n 1, 1) := by decide +kernel
theorem dX5_serve_1 : decode cX5_serve 1 = .ok (.istore_n 2, 1) := by decide +kernel
theorem dX5_serve_2 : decode cX5_serve 2 = .ok (.iconst 0, 1) := by decide +kernel
theorem dX5_serve_3 : decode cX5_serve 3 = .ok (.istore_n 3, 1) := by decide +kernel
theorem dX5_serve_4 : decode cX5_serve 4 = .ok (.iload_n 3, 1) := by decide +kernel
theorem dX5_serve_5 : decode cX5_serve 5 = .ok (.iconst 3, 1) := by decide +kernel
theorem dX5_serve_6 : decode cX5_serve 6 = .ok (.if_icmp .ge 92, 3) := by decide +kernel
theorem dX5_serve_9 : decode cX5_serve 9 = .ok (.iconst 0, 1) := by decide +kernel
theorem dX5_serve_10 : decode cX5_serve 10 = .ok (.istore 4, 2) := by decide +kernel
theorem dX5_serve_12 : decode cX5_serve 12 = .ok (.iload 4, 2) := by decide +kernel
theorem dX5_serve_14 : decode cX5_serve 14 = .ok (.aload_n 0, 1) := by decide +kernel
theorem dX5_serve_15 : decode cX5_serve 15 = .ok (.getfield 12, 3) := by decide +kernel
theorem dX5_serve_18 : decode cX5_serve 18 = .ok (.getfield 168, 3) := by decide +kernel
theorem dX5_serve_21 : decode cX5_serve 21 = .ok (.if_icmp .ge 71, 3) := by decide +kernel
theorem dX5_serve_24 : decode cX5_serve 24 = .ok (.aload_n 0, 1) := by decide +kernel
theorem dX5_serve_25 : decode cX5_serve 25 = .ok (.getfield 12, 3) := by decide +kernel
theorem dX5_serve_28 : decode cX5_serve 28 = .ok (.getfield 169, 3) := by decide +kernel
theorem dX5_serve_31 : decode cX5_serve 31 = .ok (.iload 4, 2) := by decide +kernel
theorem dX5_serve_33 : decode cX5_serve 33 = .ok (.iaload, 1) := by decide +kernel
theorem dX5_serve_34 : decode cX5_serve 34 = .ok (.iload_n 3, 1) := by decide +kernel
theorem dX5_serve_35 : decode cX5_serve 35 = .ok (.if_icmp .ne 51, 3) := by decide +kernel
theorem dX5_serve_38 : decode cX5_serve 38 = .ok (.aload_n 0, 1) := by decide +kernel
theorem dX5_serve_39 : decode cX5_serve 39 = .ok (.aload_n 0, 1) := by decide +kernel
theorem dX5_serve_40 : decode cX5_serve 40 = .ok (.getfield 12, 3) := by decide +kernel
theorem dX5_serve_43 : decode cX5_serve 43 = .ok (.getfield 154, 3) := by decide +kernel
theorem dX5_serve_46 : decode cX5_serve 46 = .ok (.iload 4, 2) := by decide +kernel
theorem dX5_serve_48 : decode cX5_serve 48 = .ok (.iaload, 1) := by decide +kernel
theorem dX5_serve_49 : decode cX5_serve 49 = .ok (.iload_n 2, 1) := by decide +kernel
theorem dX5_serve_50 : decode cX5_serve 50 = .ok (.invokevirtual 172, 3) := by decide +kernel
theorem dX5_serve_53 : decode cX5_serve 53 = .ok (.istore 5, 2) := by decide +kernel
theorem dX5_serve_55 : decode cX5_serve 55 = .ok (.aload_n 0, 1) := by decide +kernel
theorem dX5_serve_56 : decode cX5_serve 56 = .ok (.getfield 12, 3) := by decide +kernel
theorem dX5_serve_59 : decode cX5_serve 59 = .ok (.iload 4, 2) := by decide +kernel
theorem dX5_serve_61 : decode cX5_serve 61 = .ok (.iload 5, 2) := by decide +kernel
theorem dX5_serve_63 : decode cX5_serve 63 = .ok (.aload_n 0, 1) := by decide +kernel
theorem dX5_serve_64 : decode cX5_serve 64 = .ok (.getfield 42, 3) := by decide +kernel
theorem dX5_serve_67 : decode cX5_serve 67 = .ok (.iload_n 3, 1) := by decide +kernel
theorem dX5_serve_68 : decode cX5_serve 68 = .ok (.iaload, 1) := by decide +kernel
theorem dX5_serve_69 : decode cX5_serve 69 = .ok (.iconst 1, 1) := by decide +kernel
theorem dX5_serve_70 : decode cX5_serve 70 = .ok (.if_icmp .ne 7, 3) := by decide +kernel
theorem dX5_serve_73 : decode cX5_serve 73 = .ok (.iconst 1, 1) := by decide +kernel
theorem dX5_serve_74 : decode cX5_serve 74 = .ok (.goto 4, 3) := by decide +kernel
theorem dX5_serve_77 : decode cX5_serve 77 = .ok (.iconst 0, 1) := by decide +kernel
theorem dX5_serve_78 : decode cX5_serve 78 = .ok (.invokevirtual 175, 3) := by decide +kernel
theorem dX5_serve_81 : decode cX5_serve 81 = .ok (.iload_n 2, 1) := by decide +kernel
theorem dX5_serve_82 : decode cX5_serve 82 = .ok (.iload 5, 2) := by decide +kernel
theorem dX5_serve_84 : decode cX5_serve 84 = .ok (.isub, 1) := by decide +kernel
theorem dX5_serve_85 : decode cX5_serve 85 = .ok (.istore_n 2, 1) := by decide +kernel
theorem dX5_serve_86 : decode cX5_serve 86 = .ok (.iinc 4 1, 3) := by decide +kernel
theorem dX5_serve_89 : decode cX5_serve 89 = .ok (.goto (-77), 3) := by decide +kernel
theorem dX5_serve_92 : decode cX5_serve 92 = .ok (.iinc 3 1, 3) := by decide +kernel
theorem dX5_serve_95 : decode cX5_serve 95 = .ok (.goto (-91), 3) := by decide +kernel
theorem dX5_serve_98 : decode cX5_serve 98 = .ok (.iload_n 1, 1) := by decide +kernel
theorem dX5_serve_99 : decode cX5_serve 99 = .ok (.iload_n 2, 1) := by decide +kernel
theorem dX5_serve_100 : decode cX5_serve 100 = .ok (.isub, 1) := by decide +kernel
theorem dX5_serve_101 : decode cX5_serve 101 = .ok (.ireturn, 1) := by decide +kernel
theorem dX5_partOf_0 : decode cX5_partOf 0 = .ok (.iload_n 2, 1) := by decide +kernel
theorem dX5_partOf_1 : decode cX5_partOf 1 = .ok (.iload_n 1, 1) := by decide +kernel
theorem dX5_partOf_2 : decode cX5_partOf 2 = .ok (.if_icmp .lt 5, 3) := by decide +kernel
theorem dX5_partOf_5 : decode cX5_partOf 5 = .ok (.iload_n 1, 1) := by decide +kernel
theorem dX5_partOf_6 : decode cX5_partOf 6 = .ok (.ireturn, 1) := by decide +kernel
theorem dX5_partOf_7 : decode cX5_partOf 7 = .ok (.iload_n 2, 1) := by decide +kernel
theorem dX5_partOf_8 : decode cX5_partOf 8 = .ok (.bipush 100, 2) := by decide +kernel
theorem dX5_partOf_10 : decode cX5_partOf 10 = .ok (.imul, 1) := by decide +kernel
theorem dX5_partOf_11 : decode cX5_partOf 11 = .ok (.iload_n 1, 1) := by decide +kernel
theorem dX5_partOf_12 : decode cX5_partOf 12 = .ok (.aload_n 0, 1) := by decide +kernel
theorem dX5_partOf_13 : decode cX5_partOf 13 = .ok (.getfield 32, 3) := by decide +kernel
theorem dX5_partOf_16 : decode cX5_partOf 16 = .ok (.iconst 3, 1) := by decide +kernel
theorem dX5_partOf_17 : decode cX5_partOf 17 = .ok (.iaload, 1) := by decide +kernel
theorem dX5_partOf_18 : decode cX5_partOf 18 = .ok (.imul, 1) := by decide +kernel
theorem dX5_partOf_19 : decode cX5_partOf 19 = .ok (.if_icmp .lt 7, 3) := by decide +kernel
theorem dX5_partOf_22 : decode cX5_partOf 22 = .ok (.iload_n 2, 1) := by decide +kernel
theorem dX5_partOf_23 : decode cX5_partOf 23 = .ok (.goto 4, 3) := by decide +kernel
theorem dX5_partOf_26 : decode cX5_partOf 26 = .ok (.iconst 0, 1) := by decide +kernel
theorem dX5_partOf_27 : decode cX5_partOf 27 = .ok (.ireturn, 1) := by decide +kernel
theorem dX5_store_0 : decode cX5_store 0 = .ok (.iload_n 1, 1) := by decide +kernel
theorem dX5_store_1 : decode cX5_store 1 = .ok (.istore_n 2, 1) := by decide +kernel
theorem dX5_store_2 : decode cX5_store 2 = .ok (.iconst 0, 1) := by decide +kernel
theorem dX5_store_3 : decode cX5_store 3 = .ok (.istore_n 3, 1) := by decide +kernel
theorem dX5_store_4 : decode cX5_store 4 = .ok (.iload_n 3, 1) := by decide +kernel
theorem dX5_store_5 : decode cX5_store 5 = .ok (.iconst 2, 1) := by decide +kernel
theorem dX5_store_6 : decode cX5_store 6 = .ok (.if_icmp .ge 47, 3) := by decide +kernel
theorem dX5_store_9 : decode cX5_store 9 = .ok (.aload_n 0, 1) := by decide +kernel
theorem dX5_store_10 : decode cX5_store 10 = .ok (.getfield 28, 3) := by decide +kernel
theorem dX5_store_13 : decode cX5_store 13 = .ok (.iload_n 3, 1) := by decide +kernel
theorem dX5_store_14 : decode cX5_store 14 = .ok (.iload_n 2, 1) := by decide +kernel
theorem dX5_store_15 : decode cX5_store 15 = .ok (.invokevirtual 179, 3) := by decide +kernel
theorem dX5_store_18 : decode cX5_store 18 = .ok (.istore 4, 2) := by decide +kernel
theorem dX5_store_20 : decode cX5_store 20 = .ok (.aload_n 0, 1) := by decide +kernel
theorem dX5_store_21 : decode cX5_store 21 = .ok (.getfield 36, 3) := by decide +kernel
theorem dX5_store_24 : decode cX5_store 24 = .ok (.iconst 2, 1) := by decide +kernel
theorem dX5_store_25 : decode cX5_store 25 = .ok (.dup2, 1) := by decide +kernel
theorem dX5_store_26 : decode cX5_store 26 = .ok (.iaload, 1) := by decide +kernel
theorem dX5_store_27 : decode cX5_store 27 = .ok (.iload 4, 2) := by decide +kernel
theorem dX5_store_29 : decode cX5_store 29 = .ok (.aload_n 0, 1) := by decide +kernel
theorem dX5_store_30 : decode cX5_store 30 = .ok (.getfield 28, 3) := by decide +kernel
theorem dX5_store_33 : decode cX5_store 33 = .ok (.iload_n 3, 1) := by decide +kernel
theorem dX5_store_34 : decode cX5_store 34 = .ok (.iload 4, 2) := by decide +kernel
theorem dX5_store_36 : decode cX5_store 36 = .ok (.invokevirtual 182, 3) := by decide +kernel
theorem dX5_store_39 : decode cX5_store 39 = .ok (.isub, 1) := by decide +kernel
theorem dX5_store_40 : decode cX5_store 40 = .ok (.iadd, 1) := by decide +kernel
theorem dX5_store_41 : decode cX5_store 41 = .ok (.iastore, 1) := by decide +kernel
theorem dX5_store_42 : decode cX5_store 42 = .ok (.iload_n 2, 1) := by decide +kernel
theorem dX5_store_43 : decode cX5_store 43 = .ok (.iload 4, 2) := by decide +kernel
theorem dX5_store_45 : decode cX5_store 45 = .ok (.isub, 1) := by decide +kernel
theorem dX5_store_46 : decode cX5_store 46 = .ok (.istore_n 2, 1) := by decide +kernel
theorem dX5_store_47 : decode cX5_store 47 = .ok (.iinc 3 1, 3) := by decide +kernel
theorem dX5_store_50 : decode cX5_store 50 = .ok (.goto (-46), 3) := by decide +kernel
theorem dX5_store_53 : decode cX5_store 53 = .ok (.aload_n 0, 1) := by decide +kernel
theorem dX5_store_54 : decode cX5_store 54 = .ok (.getfield 36, 3) := by decide +kernel
theorem dX5_store_57 : decode cX5_store 57 = .ok (.iconst 3, 1) := by decide +kernel
theorem dX5_store_58 : decode cX5_store 58 = .ok (.dup2, 1) := by decide +kernel
theorem dX5_store_59 : decode cX5_store 59 = .ok (.iaload, 1) := by decide +kernel
theorem dX5_store_60 : decode cX5_store 60 = .ok (.iload_n 2, 1) := by decide +kernel
theorem dX5_store_61 : decode cX5_store 61 = .ok (.iadd, 1) := by decide +kernel
theorem dX5_store_62 : decode cX5_store 62 = .ok (.iastore, 1) := by decide +kernel
theorem dX5_store_63 : decode cX5_store 63 = .ok (.return_, 1) := by decide +kernel
theorem dX6_init_0 : decode cX6_init 0 = .ok (.aload_n 0, 1) := by decide +kernel
theorem dX6_init_1 : decode cX6_init 1 = .ok (.invokespecial 1, 3) := by decide +kernel
theorem dX6_init_4 : decode cX6_init 4 = .ok (.aload_n 0, 1) := by decide +kernel
theorem dX6_init_5 : decode cX6_init 5 = .ok (.new 7, 3) := by decide +kernel
theorem dX6_init_8 : decode cX6_init 8 = .ok (.dup, 1) := by decide +kernel
theorem dX6_init_9 : decode cX6_init 9 = .ok (.invokespecial 9, 3) := by decide +kernel
theorem dX6_init_12 : decode cX6_init 12 = .ok (.putfield 10, 3) := by decide +kernel
theorem dX6_init_15 : decode cX6_init 15 = .ok (.aload_n 0, 1) := by decide +kernel
theorem dX6_init_16 : decode cX6_init 16 = .ok (.new 7, 3) := by decide +kernel
theorem dX6_init_19 : decode cX6_init 19 = .ok (.dup, 1) := by decide +kernel
theorem dX6_init_20 : decode cX6_init 20 = .ok (.invokespecial 9, 3) := by decide +kernel
theorem dX6_init_23 : decode cX6_init 23 = .ok (.putfield 16, 3) := by decide +kernel
theorem dX6_init_26 : decode cX6_init 26 = .ok (.aload_n 0, 1) := by decide +kernel
theorem dX6_init_27 : decode cX6_init 27 = .ok (.new 19, 3) := by decide +kernel
theorem dX6_init_30 : decode cX6_init 30 = .ok (.dup, 1) := by decide +kernel
theorem dX6_init_31 : decode cX6_init 31 = .ok (.invokespecial 21, 3) := by decide +kernel
theorem dX6_init_34 : decode cX6_init 34 = .ok (.putfield 22, 3) := by decide +kernel
theorem dX6_init_37 : decode cX6_init 37 = .ok (.aload_n 0, 1) := by decide +kernel
theorem dX6_init_38 : decode cX6_init 38 = .ok (.iconst 2, 1) := by decide +kernel
theorem dX6_init_39 : decode cX6_init 39 = .ok (.anewarray 7, 3) := by decide +kernel
theorem dX6_init_42 : decode cX6_init 42 = .ok (.putfield 26, 3) := by decide +kernel
theorem dX6_init_45 : decode cX6_init 45 = .ok (.aload_n 0, 1) := by decide +kernel
theorem dX6_init_46 : decode cX6_init 46 = .ok (.iconst 2, 1) := by decide +kernel
theorem dX6_init_47 : decode cX6_init 47 = .ok (.newarray .boolean, 2) := by decide +kernel
theorem dX6_init_49 : decode cX6_init 49 = .ok (.putfield 30, 3) := by decide +kernel
theorem dX6_init_52 : decode cX6_init 52 = .ok (.aload_n 0, 1) := by decide +kernel
theorem dX6_init_53 : decode cX6_init 53 = .ok (.new 34, 3) := by decide +kernel
theorem dX6_init_56 : decode cX6_init 56 = .ok (.dup, 1) := by decide +kernel
theorem dX6_init_57 : decode cX6_init 57 = .ok (.invokespecial 36, 3) := by decide +kernel
theorem dX6_init_60 : decode cX6_init 60 = .ok (.putfield 37, 3) := by decide +kernel
theorem dX6_init_63 : decode cX6_init 63 = .ok (.iconst 0, 1) := by decide +kernel
theorem dX6_init_64 : decode cX6_init 64 = .ok (.istore_n 1, 1) := by decide +kernel
theorem dX6_init_65 : decode cX6_init 65 = .ok (.iload_n 1, 1) := by decide +kernel
theorem dX6_init_66 : decode cX6_init 66 = .ok (.iconst 2, 1) := by decide +kernel
theorem dX6_init_67 : decode cX6_init 67 = .ok (.if_icmp .ge 22, 3) := by decide +kernel
theorem dX6_init_70 : decode cX6_init 70 = .ok (.aload_n 0, 1) := by decide +kernel
theorem dX6_init_71 : decode cX6_init 71 = .ok (.getfield 26, 3) := by decide +kernel
theorem dX6_init_74 : decode cX6_init 74 = .ok (.iload_n 1, 1) := by decide +kernel
theorem dX6_init_75 : decode cX6_init 75 = .ok (.new 7, 3) := by decide +kernel
theorem dX6_init_78 : decode cX6_init 78 = .ok (.dup, 1) := by decide +kernel
theorem dX6_init_79 : decode cX6_init 79 = .ok (.invokespecial 9, 3) := by decide +kernel
theorem dX6_init_82 : decode cX6_init 82 = .ok (.aastore, 1) := by decide +kernel
theorem dX6_init_83 : decode cX6_init 83 = .ok (.iinc 1 1, 3) := by decide +kernel
theorem dX6_init_86 : decode cX6_init 86 = .ok (.goto (-21), 3) := by decide +kernel
theorem dX6_init_89 : decode cX6_init 89 = .ok (.return_, 1) := by decide +kernel
theorem dX6_addHouse_0 : decode cX6_addHouse 0 = .ok (.iload_n 1, 1) := by decide +kernel
theorem dX6_addHouse_1 : decode cX6_addHouse 1 = .ok (.iconst 0, 1) := by decide +kernel
theorem dX6_addHouse_2 : decode cX6_addHouse 2 = .ok (.iconst 2, 1) := by decide +kernel
theorem dX6_addHouse_3 : decode cX6_addHouse 3 = .ok (.invokestatic 41, 3) := by decide +kernel
theorem dX6_addHouse_6 : decode cX6_addHouse 6 = .ok (.ifCond .eq 13, 3) := by decide +kernel
theorem dX6_addHouse_9 : decode cX6_addHouse 9 = .ok (.iload_n 2, 1) := by decide +kernel
theorem dX6_addHouse_10 : decode cX6_addHouse 10 = .ok (.iconst 0, 1) := by decide +kernel
theorem dX6_addHouse_11 : decode cX6_addHouse 11 = .ok (.bipush 50, 2) := by decide +kernel
theorem dX6_addHouse_13 : decode cX6_addHouse 13 = .ok (.invokestatic 41, 3) := by decide +kernel
theorem dX6_addHouse_16 : decode cX6_addHouse 16 = .ok (.ifCond .ne 6, 3) := by decide +kernel
theorem dX6_addHouse_19 : decode cX6_addHouse 19 = .ok (.ldc 45, 2) := by decide +kernel
theorem dX6_addHouse_21 : decode cX6_addHouse 21 = .ok (.ireturn, 1) := by decide +kernel
theorem dX6_addHouse_22 : decode cX6_addHouse 22 = .ok (.aload_n 0, 1) := by decide +kernel
theorem dX6_addHouse_23 : decode cX6_addHouse 23 = .ok (.getfield 10, 3) := by decide +kernel
theorem dX6_addHouse_26 : decode cX6_addHouse 26 = .ok (.getfield 46, 3) := by decide +kernel
theorem dX6_addHouse_29 : decode cX6_addHouse 29 = .ok (.getfield 50, 3) := by decide +kernel
theorem dX6_addHouse_32 : decode cX6_addHouse 32 = .ok (.bipush 10, 2) := by decide +kernel
theorem dX6_addHouse_34 : decode cX6_addHouse 34 = .ok (.if_icmp .lt 6, 3) := by decide +kernel
theorem dX6_addHouse_37 : decode cX6_addHouse 37 = .ok (.ldc 56, 2) := by decide +kernel
theorem dX6_addHouse_39 : decode cX6_addHouse 39 = .ok (.ireturn, 1) := by decide +kernel
theorem dX6_addHouse_40 : decode cX6_addHouse 40 = .ok (.aload_n 0, 1) := by decide +kernel
theorem dX6_addHouse_41 : decode cX6_addHouse 41 = .ok (.getfield 22, 3) := by decide +kernel
theorem dX6_addHouse_44 : decode cX6_addHouse 44 = .ok (.aload_n 0, 1) := by decide +kernel
theorem dX6_addHouse_45 : decode cX6_addHouse 45 = .ok (.getfield 10, 3) := by decide +kernel
theorem dX6_addHouse_48 : decode cX6_addHouse 48 = .ok (.invokevirtual 57, 3) := by decide +kernel
theorem dX6_addHouse_51 : decode cX6_addHouse 51 = .ok (.aload_n 0, 1) := by decide +kernel
theorem dX6_addHouse_52 : decode cX6_addHouse 52 = .ok (.getfield 10, 3) := by decide +kernel
theorem dX6_addHouse_55 : decode cX6_addHouse 55 = .ok (.getfield 46, 3) := by decide +kernel
theorem dX6_addHouse_58 : decode cX6_addHouse 58 = .ok (.iload_n 1, 1) := by decide +kernel
theorem dX6_addHouse_59 : decode cX6_addHouse 59 = .ok (.iload_n 2, 1) := by decide +kernel
theorem dX6_addHouse_60 : decode cX6_addHouse 60 = .ok (.invokevirtual 61, 3) := by decide +kernel
theorem dX6_addHouse_63 : decode cX6_addHouse 63 = .ok (.ireturn, 1) := by decide +kernel
theorem dX6_setHouse_0 : decode cX6_setHouse 0 = .ok (.aload_n 0, 1) := by decide +kernel
theorem dX6_setHouse_1 : decode cX6_setHouse 1 = .ok (.iload_n 1, 1) := by decide +kernel
theorem dX6_setHouse_2 : decode cX6_setHouse 2 = .ok (.invokevirtual 65, 3) := by decide +kernel
theorem dX6_setHouse_5 : decode cX6_setHouse 5 = .ok (.ifCond .eq 25, 3) := by decide +kernel
theorem dX6_setHouse_8 : decode cX6_setHouse 8 = .ok (.iload_n 2, 1) := by decide +kernel
theorem dX6_setHouse_9 : decode cX6_setHouse 9 = .ok (.iconst 0, 1) := by decide +kernel
theorem dX6_setHouse_10 : decode cX6_setHouse 10 = .ok (.iconst 3, 1) := by decide +kernel
theorem dX6_setHouse_11 : decode cX6_setHouse 11 = .ok (.invokestatic 41, 3) := by decide +kernel
theorem dX6_setHouse_14 : decode cX6_setHouse 14 = .ok (.ifCond .eq 16, 3) := by decide +kernel
theorem dX6_setHouse_17 : decode cX6_setHouse 17 = .ok (.iload_n 3, 1) := by decide +kernel
theorem dX6_setHouse_18 : decode cX6_setHouse 18 = .ok (.iconst 0, 1) := by decide +kernel
theorem dX6_setHouse_19 : decode cX6_setHouse 19 = .ok (.getstatic 69, 3) := by decide +kernel
theorem dX6_setHouse_22 : decode cX6_setHouse 22 = .ok (.iload_n 2, 1) := by decide +kernel
theorem dX6_setHouse_23 : decode cX6_setHouse 23 = .ok (.iaload, 1) := by decide +kernel
theorem dX6_setHouse_24 : decode cX6_setHouse 24 = .ok (.invokestatic 41, 3) := by decide +kernel
theorem dX6_setHouse_27 : decode cX6_setHouse 27 = .ok (.ifCond .ne 6, 3) := by decide +kernel
theorem dX6_setHouse_30 : decode cX6_setHouse 30 = .ok (.ldc 45, 2) := by decide +kernel
theorem dX6_setHouse_32 : decode cX6_setHouse 32 = .ok (.ireturn, 1) := by decide +kernel
theorem dX6_setHouse_33 : decode cX6_setHouse 33 = .ok (.aload_n 0, 1) := by decide +kernel
theorem dX6_setHouse_34 : decode cX6_setHouse 34 = .ok (.getfield 22, 3) := by decide +kernel
theorem dX6_setHouse_37 : decode cX6_setHouse 37 = .ok (.aload_n 0, 1) := by decide +kernel
theorem dX6_setHouse_38 : decode cX6_setHouse 38 = .ok (.getfield 10, 3) := by decide +kernel
theorem dX6_setHouse_41 : decode cX6_setHouse 41 = .ok (.invokevirtual 57, 3) := by decide +kernel
theorem dX6_setHouse_44 : decode cX6_setHouse 44 = .ok (.aload_n 0, 1) := by decide +kernel
theorem dX6_setHouse_45 : decode cX6_setHouse 45 = .ok (.getfield 10, 3) := by decide +kernel
theorem dX6_setHouse_48 : decode cX6_setHouse 48 = .ok (.getfield 46, 3) := by decide +kernel
theorem dX6_setHouse_51 : decode cX6_setHouse 51 = .ok (.iload_n 1, 1) := by decide +kernel
theorem dX6_setHouse_52 : decode cX6_setHouse 52 = .ok (.iload_n 2, 1) := by decide +kernel
theorem dX6_setHouse_53 : decode cX6_setHouse 53 = .ok (.invokevirtual 73, 3) := by decide +kernel
theorem dX6_setHouse_56 : decode cX6_setHouse 56 = .ok (.istore 4, 2) := by decide +kernel
theorem dX6_setHouse_58 : decode cX6_setHouse 58 = .ok (.aload_n 0, 1) := by decide +kernel
theorem dX6_setHouse_59 : decode cX6_setHouse 59 = .ok (.getfield 10, 3) := by decide +kernel
theorem dX6_setHouse_62 : decode cX6_setHouse 62 = .ok (.getfield 46, 3) := by decide +kernel
theorem dX6_setHouse_65 : decode cX6_setHouse 65 = .ok (.iload_n 1, 1) := by decide +kernel
theorem dX6_setHouse_66 : decode cX6_setHouse 66 = .ok (.iload_n 2, 1) := by decide +kernel
theorem dX6_setHouse_67 : decode cX6_setHouse 67 = .ok (.iload_n 3, 1) := by decide +kernel
theorem dX6_setHouse_68 : decode cX6_setHouse 68 = .ok (.invokevirtual 76, 3) := by decide +kernel
theorem dX6_setHouse_71 : decode cX6_setHouse 71 = .ok (.iload 4, 2) := by decide +kernel
theorem dX6_setHouse_73 : decode cX6_setHouse 73 = .ok (.ireturn, 1) := by decide +kernel
theorem dX6_removeHouse_0 : decode cX6_removeHouse 0 = .ok (.aload_n 0, 1) := by decide +kernel
theorem dX6_removeHouse_1 : decode cX6_removeHouse 1 = .ok (.iload_n 1, 1) := by decide +kernel
theorem dX6_removeHouse_2 : decode cX6_removeHouse 2 = .ok (.invokevirtual 65, 3) := by decide +kernel
theorem dX6_removeHouse_5 : decode cX6_removeHouse 5 = .ok (.ifCond .ne 6, 3) := by decide +kernel
theorem dX6_removeHouse_8 : decode cX6_removeHouse 8 = .ok (.ldc 45, 2) := by decide +kernel
theorem dX6_removeHouse_10 : decode cX6_removeHouse 10 = .ok (.ireturn, 1) := by decide +kernel
theorem dX6_removeHouse_11 : decode cX6_removeHouse 11 = .ok (.aload_n 0, 1) := by decide +kernel
theorem dX6_removeHouse_12 : decode cX6_removeHouse 12 = .ok (.getfield 10, 3) := by decide +kernel
theorem dX6_removeHouse_15 : decode cX6_removeHouse 15 = .ok (.getfield 80, 3) := by decide +kernel
theorem dX6_removeHouse_18 : decode cX6_removeHouse 18 = .ok (.iload_n 1, 1) := by decide +kernel
theorem dX6_removeHouse_19 : decode cX6_removeHouse 19 = .ok (.invokevirtual 84, 3) := by decide +kernel
theorem dX6_removeHouse_22 : decode cX6_removeHouse 22 = .ok (.ifCond .eq 6, 3) := by decide +kernel
theorem dX6_removeHouse_25 : decode cX6_removeHouse 25 = .ok (.ldc 89, 2) := by decide +kernel
theorem dX6_removeHouse_27 : decode cX6_removeHouse 27 = .ok (.ireturn, 1) := by decide +kernel
theorem dX6_removeHouse_28 : decode cX6_removeHouse 28 = .ok (.aload_n 0, 1) := by decide +kernel
theorem dX6_removeHouse_29 : decode cX6_removeHouse 29 = .ok (.getfield 22, 3) := by decide +kernel
theorem dX6_removeHouse_32 : decode cX6_removeHouse 32 = .ok (.aload_n 0, 1) := by decide +kernel
theorem dX6_removeHouse_33 : decode cX6_removeHouse 33 = .ok (.getfield 10, 3) := by decide +kernel
theorem dX6_removeHouse_36 : decode cX6_removeHouse 36 = .ok (.invokevirtual 57, 3) := by decide +kernel
theorem dX6_removeHouse_39 : decode cX6_removeHouse 39 = .ok (.aload_n 0, 1) := by decide +kernel
theorem dX6_removeHouse_40 : decode cX6_removeHouse 40 = .ok (.getfield 10, 3) := by decide +kernel
theorem dX6_removeHouse_43 : decode cX6_removeHouse 43 = .ok (.getfield 46, 3) := by decide +kernel
theorem dX6_removeHouse_46 : decode cX6_removeHouse 46 = .ok (.iload_n 1, 1) := by decide +kernel
theorem dX6_removeHouse_47 : decode cX6_removeHouse 47 = .ok (.invokevirtual 90, 3) := by decide +kernel
theorem dX6_removeHouse_50 : decode cX6_removeHouse 50 = .ok (.aload_n 0, 1) := by decide +kernel
theorem dX6_removeHouse_51 : decode cX6_removeHouse 51 = .ok (.getfield 10, 3) := by decide +kernel
theorem dX6_removeHouse_54 : decode cX6_removeHouse 54 = .ok (.getfield 80, 3) := by decide +kernel
theorem dX6_removeHouse_57 : decode cX6_removeHouse 57 = .ok (.iload_n 1, 1) := by decide +kernel
theorem dX6_removeHouse_58 : decode cX6_removeHouse 58 = .ok (.invokevirtual 94, 3) := by decide +kernel
theorem dX6_removeHouse_61 : decode cX6_removeHouse 61 = .ok (.aload_n 0, 1) := by decide +kernel
theorem dX6_removeHouse_62 : decode cX6_removeHouse 62 = .ok (.getfield 10, 3) := by decide +kernel
theorem dX6_removeHouse_65 : decode cX6_removeHouse 65 = .ok (.getfield 46, 3) := by decide +kernel
theorem dX6_removeHouse_68 : decode cX6_removeHouse 68 = .ok (.getfield 50, 3) := by decide +kernel
theorem dX6_removeHouse_71 : decode cX6_removeHouse 71 = .ok (.ireturn, 1) := by decide +kernel
theorem dX6_buy_0 : decode cX6_buy 0 = .ok (.aload_n 0, 1) := by decide +kernel
theorem dX6_buy_1 : decode cX6_buy 1 = .ok (.iload_n 1, 1) := by decide +kernel
theorem dX6_buy_2 : decode cX6_buy 2 = .ok (.invokevirtual 65, 3) := by decide +kernel
theorem dX6_buy_5 : decode cX6_buy 5 = .ok (.ifCond .eq 14, 3) := by decide +kernel
theorem dX6_buy_8 : decode cX6_buy 8 = .ok (.iload_n 2, 1) := by decide +kernel
theorem dX6_buy_9 : decode cX6_buy 9 = .ok (.iconst 1, 1) := by decide +kernel
theorem dX6_buy_10 : decode cX6_buy 10 = .ok (.sipush 500, 3) := by decide +kernel
theorem dX6_buy_13 : decode cX6_buy 13 = .ok (.invokestatic 41, 3) := by decide +kernel
theorem dX6_buy_16 : decode cX6_buy 16 = .ok (.ifCond .ne 6, 3) := by decide +kernel
theorem dX6_buy_19 : decode cX6_buy 19 = .ok (.ldc 45, 2) := by decide +kernel
theorem dX6_buy_21 : decode cX6_buy 21 = .ok (.ireturn, 1) := by decide +kernel
theorem dX6_buy_22 : decode cX6_buy 22 = .ok (.aload_n 0, 1) := by decide +kernel
theorem dX6_buy_23 : decode cX6_buy 23 = .ok (.getfield 22, 3) := by decide +kernel
theorem dX6_buy_26 : decode cX6_buy 26 = .ok (.aload_n 0, 1) := by decide +kernel
theorem dX6_buy_27 : decode cX6_buy 27 = .ok (.getfield 10, 3) := by decide +kernel
theorem dX6_buy_30 : decode cX6_buy 30 = .ok (.invokevirtual 57, 3) := by decide +kernel
theorem dX6_buy_33 : decode cX6_buy 33 = .ok (.aload_n 0, 1) := by decide +kernel
theorem dX6_buy_34 : decode cX6_buy 34 = .ok (.getfield 10, 3) := by decide +kernel
theorem dX6_buy_37 : decode cX6_buy 37 = .ok (.iload_n 1, 1) := by decide +kernel
theorem dX6_buy_38 : decode cX6_buy 38 = .ok (.iload_n 2, 1) := by decide +kernel
theorem dX6_buy_39 : decode cX6_buy 39 = .ok (.invokevirtual 97, 3) := by decide +kernel
theorem dX6_buy_42 : decode cX6_buy 42 = .ok (.aload_n 0, 1) := by decide +kernel
theorem dX6_buy_43 : decode cX6_buy 43 = .ok (.getfield 10, 3) := by decide +kernel
theorem dX6_buy_46 : decode cX6_buy 46 = .ok (.getfield 46, 3) := by decide +kernel
theorem dX6_buy_49 : decode cX6_buy 49 = .ok (.getfield 101, 3) := by decide +kernel
theorem dX6_buy_52 : decode cX6_buy 52 = .ok (.iload_n 1, 1) := by decide +kernel
theorem dX6_buy_53 : decode cX6_buy 53 = .ok (.iaload, 1) := by decide +kernel
theorem dX6_buy_54 : decode cX6_buy 54 = .ok (.ireturn, 1) := by decide +kernel
theorem dX6_lend_0 : decode cX6_lend 0 = .ok (.aload_n 0, 1) := by decide +kernel
theorem dX6_lend_1 : decode cX6_lend 1 = .ok (.iload_n 1, 1) := by decide +kernel
theorem dX6_lend_2 : decode cX6_lend 2 = .ok (.invokevirtual 65, 3) := by decide +kernel
theorem dX6_lend_5 : decode cX6_lend 5 = .ok (.ifCond .eq 27, 3) := by decide +kernel
theorem dX6_lend_8 : decode cX6_lend 8 = .ok (.aload_n 0, 1) := by decide +kernel
theorem dX6_lend_9 : decode cX6_lend 9 = .ok (.iload_n 2, 1) := by decide +kernel
theorem dX6_lend_10 : decode cX6_lend 10 = .ok (.invokevirtual 65, 3) := by decide +kernel
theorem dX6_lend_13 : decode cX6_lend 13 = .ok (.ifCond .eq 19, 3) := by decide +kernel
theorem dX6_lend_16 : decode cX6_lend 16 = .ok (.iload_n 1, 1) := by decide +kernel
theorem dX6_lend_17 : decode cX6_lend 17 = .ok (.iload_n 2, 1) := by decide +kernel
theorem dX6_lend_18 : decode cX6_lend 18 = .ok (.if_icmp .eq 14, 3) := by decide +kernel
theorem dX6_lend_21 : decode cX6_lend 21 = .ok (.iload_n 3, 1) := by decide +kernel
theorem dX6_lend_22 : decode cX6_lend 22 = .ok (.iconst 1, 1) := by decide +kernel
theorem dX6_lend_23 : decode cX6_lend 23 = .ok (.sipush 200, 3) := by decide +kernel
theorem dX6_lend_26 : decode cX6_lend 26 = .ok (.invokestatic 41, 3) := by decide +kernel
theorem dX6_lend_29 : decode cX6_lend 29 = .ok (.ifCond .ne 6, 3) := by decide +kernel
theorem dX6_lend_32 : decode cX6_lend 32 = .ok (.ldc 45, 2) := by decide +kernel
theorem dX6_lend_34 : decode cX6_lend 34 = .ok (.ireturn, 1) := by decide +kernel
theorem dX6_lend_35 : decode cX6_lend 35 = .ok (.aload_n 0, 1) := by decide +kernel
theorem dX6_lend_36 : decode cX6_lend 36 = .ok (.getfield 10, 3) := by decide +kernel
theorem dX6_lend_39 : decode cX6_lend 39 = .ok (.getfield 46, 3) := by decide +kernel
theorem dX6_lend_42 : decode cX6_lend 42 = .ok (.getfield 101, 3) := by decide +kernel
theorem dX6_lend_45 : decode cX6_lend 45 = .ok (.iload_n 1, 1) := by decide +kernel
theorem dX6_lend_46 : decode cX6_lend 46 = .ok (.iaload, 1) := by decide +kernel
theorem dX6_lend_47 : decode cX6_lend 47 = .ok (.iload_n 3, 1) := by decide +kernel
theorem dX6_lend_48 : decode cX6_lend 48 = .ok (.if_icmp .ge 6, 3) := by decide +kernel
theorem dX6_lend_51 : decode cX6_lend 51 = .ok (.ldc 89, 2) := by decide +kernel
theorem dX6_lend_53 : decode cX6_lend 53 = .ok (.ireturn, 1) := by decide +kernel
theorem dX6_lend_54 : decode cX6_lend 54 = .ok (.aload_n 0, 1) := by decide +kernel
theorem dX6_lend_55 : decode cX6_lend 55 = .ok (.getfield 10, 3) := by decide +kernel
theorem dX6_lend_58 : decode cX6_lend 58 = .ok (.getfield 80, 3) := by decide +kernel
theorem dX6_lend_61 : decode cX6_lend 61 = .ok (.getfield 104, 3) := by decide +kernel
theorem dX6_lend_64 : decode cX6_lend 64 = .ok (.bipush 12, 2) := by decide +kernel
theorem dX6_lend_66 : decode cX6_lend 66 = .ok (.if_icmp .lt 6, 3) := by decide +kernel
theorem dX6_lend_69 : decode cX6_lend 69 = .ok (.ldc 56, 2) := by decide +kernel
theorem dX6_lend_71 : decode cX6_lend 71 = .ok (.ireturn, 1) := by decide +kernel
theorem dX6_lend_72 : decode cX6_lend 72 = .ok (.aload_n 0, 1) := by decide +kernel
theorem dX6_lend_73 : decode cX6_lend 73 = .ok (.getfield 22, 3) := by decide +kernel
theorem dX6_lend_76 : decode cX6_lend 76 = .ok (.aload_n 0, 1) := by decide +kernel
theorem dX6_lend_77 : decode cX6_lend 77 = .ok (.getfield 10, 3) := by decide +kernel
theorem dX6_lend_80 : decode cX6_lend 80 = .ok (.invokevirtual 57, 3) := by decide +kernel
theorem dX6_lend_83 : decode cX6_lend 83 = .ok (.aload_n 0, 1) := by decide +kernel
theorem dX6_lend_84 : decode cX6_lend 84 = .ok (.getfield 10, 3) := by decide +kernel
theorem dX6_lend_87 : decode cX6_lend 87 = .ok (.getfield 46, 3) := by decide +kernel
theorem dX6_lend_90 : decode cX6_lend 90 = .ok (.getfield 101, 3) := by decide +kernel
theorem dX6_lend_93 : decode cX6_lend 93 = .ok (.iload_n 1, 1) := by decide +kernel
theorem dX6_lend_94 : decode cX6_lend 94 = .ok (.dup2, 1) := by decide +kernel
theorem dX6_lend_95 : decode cX6_lend 95 = .ok (.iaload, 1) := by decide +kernel
theorem dX6_lend_96 : decode cX6_lend 96 = .ok (.iload_n 3, 1) := by decide +kernel
theorem dX6_lend_97 : decode cX6_lend 97 = .ok (.isub, 1) := by decide +kernel
theorem dX6_lend_98 : decode cX6_lend 98 = .ok (.iastore, 1) := by decide +kernel
theorem dX6_lend_99 : decode cX6_lend 99 = .ok (.aload_n 0, 1) := by decide +kernel
theorem dX6_lend_100 : decode cX6_lend 100 = .ok (.getfield 10, 3) := by decide +kernel
theorem dX6_lend_103 : decode cX6_lend 103 = .ok (.getfield 46, 3) := by decide +kernel
theorem dX6_lend_106 : decode cX6_lend 106 = .ok (.getfield 101, 3) := by decide +kernel
theorem dX6_lend_109 : decode cX6_lend 109 = .ok (.iload_n 2, 1) := by decide +kernel
theorem dX6_lend_110 : decode cX6_lend 110 = .ok (.dup2, 1) := by decide +kernel
theorem dX6_lend_111 : decode cX6_lend 111 = .ok (.iaload, 1) := by decide +kernel
theorem dX6_lend_112 : decode cX6_lend 112 = .ok (.iload_n 3, 1) := by decide +kernel
theorem dX6_lend_113 : decode cX6_lend 113 = .ok (.iadd, 1) := by decide +kernel
theorem dX6_lend_114 : decode cX6_lend 114 = .ok (.iastore, 1) := by decide +kernel
theorem dX6_lend_115 : decode cX6_lend 115 = .ok (.aload_n 0, 1) := by decide +kernel
theorem dX6_lend_116 : decode cX6_lend 116 = .ok (.getfield 10, 3) := by decide +kernel
theorem dX6_lend_119 : decode cX6_lend 119 = .ok (.getfield 80, 3) := by decide +kernel
theorem dX6_lend_122 : decode cX6_lend 122 = .ok (.iload_n 1, 1) := by decide +kernel
theorem dX6_lend_123 : decode cX6_lend 123 = .ok (.iload_n 2, 1) := by decide +kernel
theorem dX6_lend_124 : decode cX6_lend 124 = .ok (.iload_n 3, 1) := by decide +kernel
theorem dX6_lend_125 : decode cX6_lend 125 = .ok (.invokevirtual 105, 3) := by decide +kernel
theorem dX6_lend_128 : decode cX6_lend 128 = .ok (.aload_n 0, 1) := by decide +kernel
theorem dX6_lend_129 : decode cX6_lend 129 = .ok (.getfield 10, 3) := by decide +kernel
theorem dX6_lend_132 : decode cX6_lend 132 = .ok (.getfield 80, 3) := by decide +kernel
theorem dX6_lend_135 : decode cX6_lend 135 = .ok (.getfield 104, 3) := by decide +kernel
theorem dX6_lend_138 : decode cX6_lend 138 = .ok (.ireturn, 1) := by decide +kernel
theorem dX6_remit_0 : decode cX6_remit 0 = .ok (.aload_n 0, 1) := by decide +kernel
theorem dX6_remit_1 : decode cX6_remit 1 = .ok (.iload_n 1, 1) := by decide +kernel
theorem dX6_remit_2 : decode cX6_remit 2 = .ok (.invokevirtual 107, 3) := by decide +kernel
theorem dX6_remit_5 : decode cX6_remit 5 = .ok (.ifCond .ne 6, 3) := by decide +kernel
theorem dX6_remit_8 : decode cX6_remit 8 = .ok (.ldc 45, 2) := by decide +kernel
theorem dX6_remit_10 : decode cX6_remit 10 = .ok (.ireturn, 1) := by decide +kernel
theorem dX6_remit_11 : decode cX6_remit 11 = .ok (.aload_n 0, 1) := by decide +kernel
theorem dX6_remit_12 : decode cX6_remit 12 = .ok (.getfield 22, 3) := by decide +kernel
theorem dX6_remit_15 : decode cX6_remit 15 = .ok (.aload_n 0, 1) := by decide +kernel
theorem dX6_remit_16 : decode cX6_remit 16 = .ok (.getfield 10, 3) := by decide +kernel
theorem dX6_remit_19 : decode cX6_remit 19 = .ok (.invokevirtual 57, 3) := by decide +kernel
theorem dX6_remit_22 : decode cX6_remit 22 = .ok (.aload_n 0, 1) := by decide +kernel
theorem dX6_remit_23 : decode cX6_remit 23 = .ok (.getfield 10, 3) := by decide +kernel
theorem dX6_remit_26 : decode cX6_remit 26 = .ok (.getfield 80, 3) := by decide +kernel
theorem dX6_remit_29 : decode cX6_remit 29 = .ok (.getfield 110, 3) := by decide +kernel
theorem dX6_remit_32 : decode cX6_remit 32 = .ok (.iload_n 1, 1) := by decide +kernel
theorem dX6_remit_33 : decode cX6_remit 33 = .ok (.iaload, 1) := by decide +kernel
theorem dX6_remit_34 : decode cX6_remit 34 = .ok (.istore_n 2, 1) := by decide +kernel
theorem dX6_remit_35 : decode cX6_remit 35 = .ok (.aload_n 0, 1) := by decide +kernel
theorem dX6_remit_36 : decode cX6_remit 36 = .ok (.getfield 10, 3) := by decide +kernel
theorem dX6_remit_39 : decode cX6_remit 39 = .ok (.getfield 80, 3) := by decide +kernel
theorem dX6_remit_42 : decode cX6_remit 42 = .ok (.iload_n 1, 1) := by decide +kernel
theorem dX6_remit_43 : decode cX6_remit 43 = .ok (.invokevirtual 113, 3) := by decide +kernel
theorem dX6_remit_46 : decode cX6_remit 46 = .ok (.iload_n 2, 1) := by decide +kernel
theorem dX6_remit_47 : decode cX6_remit 47 = .ok (.ireturn, 1) := by decide +kernel
theorem dX6_net_0 : decode cX6_net 0 = .ok (.aload_n 0, 1) := by decide +kernel
theorem dX6_net_1 : decode cX6_net 1 = .ok (.getfield 22, 3) := by decide +kernel
theorem dX6_net_4 : decode cX6_net 4 = .ok (.aload_n 0, 1) := by decide +kernel
theorem dX6_net_5 : decode cX6_net 5 = .ok (.getfield 10, 3) := by decide +kernel
theorem dX6_net_8 : decode cX6_net 8 = .ok (.invokevirtual 57, 3) := by decide +kernel
theorem dX6_net_11 : decode cX6_net 11 = .ok (.aload_n 0, 1) := by decide +kernel
theorem dX6_net_12 : decode cX6_net 12 = .ok (.getfield 10, 3) := by decide +kernel
theorem dX6_net_15 : decode cX6_net 15 = .ok (.getfield 80, 3) := by decide +kernel
theorem dX6_net_18 : decode cX6_net 18 = .ok (.invokevirtual 114, 3) := by decide +kernel
theorem dX6_net_21 : decode cX6_net 21 = .ok (.ireturn, 1) := by decide +kernel
theorem dX6_set_0 : decode cX6_set 0 = .ok (.iload_n 1, 1) := by decide +kernel
theorem dX6_set_1 : decode cX6_set 1 = .ok (.invokestatic 118, 3) := by decide +kernel
theorem dX6_set_4 : decode cX6_set 4 = .ok (.ifCond .eq 16, 3) := by decide +kernel
theorem dX6_set_7 : decode cX6_set 7 = .ok (.iload_n 2, 1) := by decide +kernel
theorem dX6_set_8 : decode cX6_set 8 = .ok (.iconst 0, 1) := by decide +kernel
theorem dX6_set_9 : decode cX6_set 9 = .ok (.getstatic 121, 3) := by decide +kernel
theorem dX6_set_12 : decode cX6_set 12 = .ok (.iload_n 1, 1) := by decide +kernel
theorem dX6_set_13 : decode cX6_set 13 = .ok (.iaload, 1) := by decide +kernel
theorem dX6_set_14 : decode cX6_set 14 = .ok (.invokestatic 41, 3) := by decide +kernel
theorem dX6_set_17 : decode cX6_set 17 = .ok (.ifCond .ne 6, 3) := by decide +kernel
theorem dX6_set_20 : decode cX6_set 20 = .ok (.ldc 45, 2) := by decide +kernel
theorem dX6_set_22 : decode cX6_set 22 = .ok (.ireturn, 1) := by decide +kernel
theorem dX6_set_23 : decode cX6_set 23 = .ok (.aload_n 0, 1) := by decide +kernel
theorem dX6_set_24 : decode cX6_set 24 = .ok (.getfield 22, 3) := by decide +kernel
theorem dX6_set_27 : decode cX6_set 27 = .ok (.aload_n 0, 1) := by decide +kernel
theorem dX6_set_28 : decode cX6_set 28 = .ok (.getfield 10, 3) := by decide +kernel
theorem dX6_set_31 : decode cX6_set 31 = .ok (.invokevirtual 57, 3) := by decide +kernel
theorem dX6_set_34 : decode cX6_set 34 = .ok (.aload_n 0, 1) := by decide +kernel
theorem dX6_set_35 : decode cX6_set 35 = .ok (.getfield 10, 3) := by decide +kernel
theorem dX6_set_38 : decode cX6_set 38 = .ok (.getfield 124, 3) := by decide +kernel
theorem dX6_set_41 : decode cX6_set 41 = .ok (.iload_n 1, 1) := by decide +kernel
theorem dX6_set_42 : decode cX6_set 42 = .ok (.iaload, 1) := by decide +kernel
theorem dX6_set_43 : decode cX6_set 43 = .ok (.istore_n 3, 1) := by decide +kernel
theorem dX6_set_44 : decode cX6_set 44 = .ok (.aload_n 0, 1) := by decide +kernel
theorem dX6_set_45 : decode cX6_set 45 = .ok (.getfield 10, 3) := by decide +kernel
theorem dX6_set_48 : decode cX6_set 48 = .ok (.getfield 124, 3) := by decide +kernel
theorem dX6_set_51 : decode cX6_set 51 = .ok (.iload_n 1, 1) := by decide +kernel
theorem dX6_set_52 : decode cX6_set 52 = .ok (.iload_n 2, 1) := by decide +kernel
theorem dX6_set_53 : decode cX6_set 53 = .ok (.iastore, 1) := by decide +kernel
theorem dX6_set_54 : decode cX6_set 54 = .ok (.iload_n 3, 1) := by decide +kernel
theorem dX6_set_55 : decode cX6_set 55 = .ok (.ireturn, 1) := by decide +kernel
theorem dX6_setBattery_0 : decode cX6_setBattery 0 = .ok (.iload_n 1, 1) := by decide +kernel
theorem dX6_setBattery_1 : decode cX6_setBattery 1 = .ok (.invokestatic 127, 3) := by decide +kernel
theorem dX6_setBattery_4 : decode cX6_setBattery 4 = .ok (.ifCond .eq 29, 3) := by decide +kernel
theorem dX6_setBattery_7 : decode cX6_setBattery 7 = .ok (.iload_n 2, 1) := by decide +kernel
theorem dX6_setBattery_8 : decode cX6_setBattery 8 = .ok (.iconst 0, 1) := by decide +kernel
theorem dX6_setBattery_9 : decode cX6_setBattery 9 = .ok (.iconst 2, 1) := by decide +kernel
theorem dX6_setBattery_10 : decode cX6_setBattery 10 = .ok (.invokestatic 41, 3) := by decide +kernel
theorem dX6_setBattery_13 : decode cX6_setBattery 13 = .ok (.ifCond .eq 20, 3) := by decide +kernel
theorem dX6_setBattery_16 : decode cX6_setBattery 16 = .ok (.iload_n 3, 1) := by decide +kernel
theorem dX6_setBattery_17 : decode cX6_setBattery 17 = .ok (.getstatic 130, 3) := by decide +kernel
theorem dX6_setBattery_20 : decode cX6_setBattery 20 = .ok (.iload_n 2, 1) := by decide +kernel
theorem dX6_setBattery_21 : decode cX6_setBattery 21 = .ok (.iaload, 1) := by decide +kernel
theorem dX6_setBattery_22 : decode cX6_setBattery 22 = .ok (.getstatic 133, 3) := by decide +kernel
theorem dX6_setBattery_25 : decode cX6_setBattery 25 = .ok (.iload_n 2, 1) := by decide +kernel
theorem dX6_setBattery_26 : decode cX6_setBattery 26 = .ok (.iaload, 1) := by decide +kernel
theorem dX6_setBattery_27 : decode cX6_setBattery 27 = .ok (.invokestatic 41, 3) := by decide +kernel
theorem dX6_setBattery_30 : decode cX6_setBattery 30 = .ok (.ifCond .ne 6, 3) := by decide +kernel
theorem dX6_setBattery_33 : decode cX6_setBattery 33 = .ok (.ldc 45, 2) := by decide +kernel
theorem dX6_setBattery_35 : decode cX6_setBattery 35 = .ok (.ireturn, 1) := by decide +kernel
theorem dX6_setBattery_36 : decode cX6_setBattery 36 = .ok (.aload_n 0, 1) := by decide +kernel
theorem dX6_setBattery_37 : decode cX6_setBattery 37 = .ok (.getfield 22, 3) := by decide +kernel
theorem dX6_setBattery_40 : decode cX6_setBattery 40 = .ok (.aload_n 0, 1) := by decide +kernel
theorem dX6_setBattery_41 : decode cX6_setBattery 41 = .ok (.getfield 10, 3) := by decide +kernel
theorem dX6_setBattery_44 : decode cX6_setBattery 44 = .ok (.invokevirtual 57, 3) := by decide +kernel
theorem dX6_setBattery_47 : decode cX6_setBattery 47 = .ok (.aload_n 0, 1) := by decide +kernel
theorem dX6_setBattery_48 : decode cX6_setBattery 48 = .ok (.getfield 10, 3) := by decide +kernel
theorem dX6_setBattery_51 : decode cX6_setBattery 51 = .ok (.getfield 136, 3) := by decide +kernel
theorem dX6_setBattery_54 : decode cX6_setBattery 54 = .ok (.iload_n 1, 1) := by decide +kernel
theorem dX6_setBattery_55 : decode cX6_setBattery 55 = .ok (.iload_n 2, 1) := by decide +kernel
theorem dX6_setBattery_56 : decode cX6_setBattery 56 = .ok (.invokevirtual 140, 3) := by decide +kernel
theorem dX6_setBattery_59 : decode cX6_setBattery 59 = .ok (.istore 4, 2) := by decide +kernel
theorem dX6_setBattery_61 : decode cX6_setBattery 61 = .ok (.aload_n 0, 1) := by decide +kernel
theorem dX6_setBattery_62 : decode cX6_setBattery 62 = .ok (.getfield 10, 3) := by decide +kernel
theorem dX6_setBattery_65 : decode cX6_setBattery 65 = .ok (.getfield 136, 3) := by decide +kernel
theorem dX6_setBattery_68 : decode cX6_setBattery 68 = .ok (.iload_n 1, 1) := by decide +kernel
theorem dX6_setBattery_69 : decode cX6_setBattery 69 = .ok (.iload_n 2, 1) := by decide +kernel
theorem dX6_setBattery_70 : decode cX6_setBattery 70 = .ok (.iload_n 3, 1) := by decide +kernel
theorem dX6_setBattery_71 : decode cX6_setBattery 71 = .ok (.invokevirtual 143, 3) := by decide +kernel
theorem dX6_setBattery_74 : decode cX6_setBattery 74 = .ok (.aload_n 0, 1) := by decide +kernel
theorem dX6_setBattery_75 : decode cX6_setBattery 75 = .ok (.getfield 10, 3) := by decide +kernel
theorem dX6_setBattery_78 : decode cX6_setBattery 78 = .ok (.getfield 144, 3) := by decide +kernel
theorem dX6_setBattery_81 : decode cX6_setBattery 81 = .ok (.iconst 4, 1) := by decide +kernel
theorem dX6_setBattery_82 : decode cX6_setBattery 82 = .ok (.dup2, 1) := by decide +kernel
theorem dX6_setBattery_83 : decode cX6_setBattery 83 = .ok (.iaload, 1) := by decide +kernel
theorem dX6_setBattery_84 : decode cX6_setBattery 84 = .ok (.aload_n 0, 1) := by decide +kernel
theorem dX6_setBattery_85 : decode cX6_setBattery 85 = .ok (.getfield 10, 3) := by decide +kernel
theorem dX6_setBattery_88 : decode cX6_setBattery 88 = .ok (.getfield 136, 3) := by decide +kernel
theorem dX6_setBattery_91 : decode cX6_setBattery 91 = .ok (.iload_n 1, 1) := by decide +kernel
theorem dX6_setBattery_92 : decode cX6_setBattery 92 = .ok (.invokevirtual 147, 3) := by decide +kernel
theorem dX6_setBattery_95 : decode cX6_setBattery 95 = .ok (.iadd, 1) := by decide +kernel
theorem dX6_setBattery_96 : decode cX6_setBattery 96 = .ok (.iastore, 1) := by decide +kernel
theorem dX6_setBattery_97 : decode cX6_setBattery 97 = .ok (.iload 4, 2) := by decide +kernel
theorem dX6_setBattery_99 : decode cX6_setBattery 99 = .ok (.ireturn, 1) := by decide +kernel
theorem dX6_run_0 : decode cX6_run 0 = .ok (.iload_n 1, 1) := by decide +kernel
theorem dX6_run_1 : decode cX6_run 1 = .ok (.iconst 1, 1) := by decide +kernel
theorem dX6_run_2 : decode cX6_run 2 = .ok (.bipush 100, 2) := by decide +kernel
theorem dX6_run_4 : decode cX6_run 4 = .ok (.invokestatic 41, 3) := by decide +kernel
theorem dX6_run_7 : decode cX6_run 7 = .ok (.ifCond .ne 6, 3) := by decide +kernel
theorem dX6_run_10 : decode cX6_run 10 = .ok (.ldc 45, 2) := by decide +kernel
theorem dX6_run_12 : decode cX6_run 12 = .ok (.ireturn, 1) := by decide +kernel
theorem dX6_run_13 : decode cX6_run 13 = .ok (.aload_n 0, 1) := by decide +kernel
theorem dX6_run_14 : decode cX6_run 14 = .ok (.getfield 22, 3) := by decide +kernel
theorem dX6_run_17 : decode cX6_run 17 = .ok (.aload_n 0, 1) := by decide +kernel
theorem dX6_run_18 : decode cX6_run 18 = .ok (.getfield 10, 3) := by decide +kernel
theorem dX6_run_21 : decode cX6_run 21 = .ok (.invokevirtual 57, 3) := by decide +kernel
theorem dX6_run_24 : decode cX6_run 24 = .ok (.aload_n 0, 1) := by decide +kernel
theorem dX6_run_25 : decode cX6_run 25 = .ok (.getfield 10, 3) := by decide +kernel
theorem dX6_run_28 : decode cX6_run 28 = .ok (.getfield 144, 3) := by decide +kernel
theorem dX6_run_31 : decode cX6_run 31 = .ok (.iconst 1, 1) := by decide +kernel
theorem dX6_run_32 : decode cX6_run 32 = .ok (.iaload, 1) := by decide +kernel
theorem dX6_run_33 : decode cX6_run 33 = .ok (.istore_n 2, 1) := by decide +kernel
theorem dX6_run_34 : decode cX6_run 34 = .ok (.aload_n 0, 1) := by decide +kernel
theorem dX6_run_35 : decode cX6_run 35 = .ok (.getfield 10, 3) := by decide +kernel
theorem dX6_run_38 : decode cX6_run 38 = .ok (.iload_n 1, 1) := by decide +kernel
theorem dX6_run_39 : decode cX6_run 39 = .ok (.invokevirtual 151, 3) := by decide +kernel
theorem dX6_run_42 : decode cX6_run 42 = .ok (.aload_n 0, 1) := by decide +kernel
theorem dX6_run_43 : decode cX6_run 43 = .ok (.getfield 10, 3) := by decide +kernel
theorem dX6_run_46 : decode cX6_run 46 = .ok (.getfield 144, 3) := by decide +kernel
theorem dX6_run_49 : decode cX6_run 49 = .ok (.iconst 1, 1) := by decide +kernel
theorem dX6_run_50 : decode cX6_run 50 = .ok (.iaload, 1) := by decide +kernel
theorem dX6_run_51 : decode cX6_run 51 = .ok (.iload_n 2, 1) := by decide +kernel
theorem dX6_run_52 : decode cX6_run 52 = .ok (.isub, 1) := by decide +kernel
theorem dX6_run_53 : decode cX6_run 53 = .ok (.ireturn, 1) := by decide +kernel
theorem dX6_type_0 : decode cX6_type 0 = .ok (.iload_n 1, 1) := by decide +kernel
theorem dX6_type_1 : decode cX6_type 1 = .ok (.bipush 33, 2) := by decide +kernel
theorem dX6_type_3 : decode cX6_type 3 = .ok (.bipush 126, 2) := by decide +kernel
theorem dX6_type_5 : decode cX6_type 5 = .ok (.invokestatic 41, 3) := by decide +kernel
theorem dX6_type_8 : decode cX6_type 8 = .ok (.ifCond .ne 6, 3) := by decide +kernel
theorem dX6_type_11 : decode cX6_type 11 = .ok (.ldc 45, 2) := by decide +kernel
theorem dX6_type_13 : decode cX6_type 13 = .ok (.ireturn, 1) := by decide +kernel
theorem dX6_type_14 : decode cX6_type 14 = .ok (.aload_n 0, 1) := by decide +kernel
theorem dX6_type_15 : decode cX6_type 15 = .ok (.getfield 37, 3) := by decide +kernel
theorem dX6_type_18 : decode cX6_type 18 = .ok (.getfield 154, 3) := by decide +kernel
theorem dX6_type_21 : decode cX6_type 21 = .ok (.bipush 60, 2) := by decide +kernel
theorem dX6_type_23 : decode cX6_type 23 = .ok (.if_icmp .lt 6, 3) := by decide +kernel
theorem dX6_type_26 : decode cX6_type 26 = .ok (.ldc 56, 2) := by decide +kernel
theorem dX6_type_28 : decode cX6_type 28 = .ok (.ireturn, 1) := by decide +kernel
theorem dX6_type_29 : decode cX6_type 29 = .ok (.aload_n 0, 1) := by decide +kernel
theorem dX6_type_30 : decode cX6_type 30 = .ok (.getfield 37, 3) := by decide +kernel
theorem dX6_type_33 : decode cX6_type 33 = .ok (.iload_n 1, 1) := by decide +kernel
theorem dX6_type_34 : decode cX6_type 34 = .ok (.invokevirtual 157, 3) := by decide +kernel
theorem dX6_type_37 : decode cX6_type 37 = .ok (.aload_n 0, 1) := by decide +kernel
theorem dX6_type_38 : decode cX6_type 38 = .ok (.getfield 37, 3) := by decide +kernel
theorem dX6_type_41 : decode cX6_type 41 = .ok (.getfield 154, 3) := by decide +kernel
theorem dX6_type_44 : decode cX6_type 44 = .ok (.ireturn, 1) := by decide +kernel
theorem dX6_clear_0 : decode cX6_clear 0 = .ok (.aload_n 0, 1) := by decide +kernel
theorem dX6_clear_1 : decode cX6_clear 1 = .ok (.getfield 37, 3) := by decide +kernel
theorem dX6_clear_4 : decode cX6_clear 4 = .ok (.getfield 154, 3) := by decide +kernel
theorem dX6_clear_7 : decode cX6_clear 7 = .ok (.istore_n 1, 1) := by decide +kernel
theorem dX6_clear_8 : decode cX6_clear 8 = .ok (.aload_n 0, 1) := by decide +kernel
theorem dX6_clear_9 : decode cX6_clear 9 = .ok (.getfield 37, 3) := by decide +kernel
theorem dX6_clear_12 : decode cX6_clear 12 = .ok (.iconst 0, 1) := by decide +kernel
theorem dX6_clear_13 : decode cX6_clear 13 = .ok (.putfield 154, 3) := by decide +kernel
theorem dX6_clear_16 : decode cX6_clear 16 = .ok (.iload_n 1, 1) := by decide +kernel
theorem dX6_clear_17 : decode cX6_clear 17 = .ok (.ireturn, 1) := by decide +kernel
theorem dX6_fault_0 : decode cX6_fault 0 = .ok (.aload_n 0, 1) := by decide +kernel
theorem dX6_fault_1 : decode cX6_fault 1 = .ok (.getfield 37, 3) := by decide +kernel
theorem dX6_fault_4 : decode cX6_fault 4 = .ok (.invokevirtual 160, 3) := by decide +kernel
theorem dX6_fault_7 : decode cX6_fault 7 = .ok (.ireturn, 1) := by decide +kernel
theorem dX6_load_0 : decode cX6_load 0 = .ok (.aload_n 0, 1) := by decide +kernel
theorem dX6_load_1 : decode cX6_load 1 = .ok (.getfield 37, 3) := by decide +kernel
theorem dX6_load_4 : decode cX6_load 4 = .ok (.invokevirtual 160, 3) := by decide +kernel
theorem dX6_load_7 : decode cX6_load 7 = .ok (.ldc 163, 2) := by decide +kernel
theorem dX6_load_9 : decode cX6_load 9 = .ok (.if_icmp .eq 6, 3) := by decide +kernel
theorem dX6_load_12 : decode cX6_load 12 = .ok (.ldc 89, 2) := by decide +kernel
theorem dX6_load_14 : decode cX6_load 14 = .ok (.ireturn, 1) := by decide +kernel
theorem dX6_load_15 : decode cX6_load 15 = .ok (.aload_n 0, 1) := by decide +kernel
theorem dX6_load_16 : decode cX6_load 16 = .ok (.getfield 22, 3) := by decide +kernel
theorem dX6_load_19 : decode cX6_load 19 = .ok (.aload_n 0, 1) := by decide +kernel
theorem dX6_load_20 : decode cX6_load 20 = .ok (.getfield 10, 3) := by decide +kernel
theorem dX6_load_23 : decode cX6_load 23 = .ok (.invokevirtual 57, 3) := by decide +kernel
theorem dX6_load_26 : decode cX6_load 26 = .ok (.aload_n 0, 1) := by decide +kernel
theorem dX6_load_27 : decode cX6_load 27 = .ok (.getfield 10, 3) := by decide +kernel
theorem dX6_load_30 : decode cX6_load 30 = .ok (.aload_n 0, 1) := by decide +kernel
theorem dX6_load_31 : decode cX6_load 31 = .ok (.getfield 37, 3) := by decide +kernel
theorem dX6_load_34 : decode cX6_load 34 = .ok (.getfield 164, 3) := by decide +kernel
theorem dX6_load_37 : decode cX6_load 37 = .ok (.aload_n 0, 1) := by decide +kernel
theorem dX6_load_38 : decode cX6_load 38 = .ok (.getfield 37, 3) := by decide +kernel
theorem dX6_load_41 : decode cX6_load 41 = .ok (.getfield 167, 3) := by decide +kernel
theorem dX6_load_44 : decode cX6_load 44 = .ok (.invokevirtual 168, 3) := by decide +kernel
theorem dX6_load_47 : decode cX6_load 47 = .ok (.aload_n 0, 1) := by decide +kernel
theorem dX6_load_48 : decode cX6_load 48 = .ok (.getfield 37, 3) := by decide +kernel
theorem dX6_load_51 : decode cX6_load 51 = .ok (.iconst 0, 1) := by decide +kernel
theorem dX6_load_52 : decode cX6_load 52 = .ok (.putfield 154, 3) := by decide +kernel
theorem dX6_load_55 : decode cX6_load 55 = .ok (.aload_n 0, 1) := by decide +kernel
theorem dX6_load_56 : decode cX6_load 56 = .ok (.getfield 10, 3) := by decide +kernel
theorem dX6_load_59 : decode cX6_load 59 = .ok (.getfield 172, 3) := by decide +kernel
theorem dX6_load_62 : decode cX6_load 62 = .ok (.ireturn, 1) := by decide +kernel
theorem dX6_undo_0 : decode cX6_undo 0 = .ok (.aload_n 0, 1) := by decide +kernel
theorem dX6_undo_1 : decode cX6_undo 1 = .ok (.getfield 22, 3) := by decide +kernel
theorem dX6_undo_4 : decode cX6_undo 4 = .ok (.getfield 175, 3) := by decide +kernel
theorem dX6_undo_7 : decode cX6_undo 7 = .ok (.ifCond .gt 6, 3) := by decide +kernel
theorem dX6_undo_10 : decode cX6_undo 10 = .ok (.ldc 89, 2) := by decide +kernel
theorem dX6_undo_12 : decode cX6_undo 12 = .ok (.ireturn, 1) := by decide +kernel
theorem dX6_undo_13 : decode cX6_undo 13 = .ok (.aload_n 0, 1) := by decide +kernel
theorem dX6_undo_14 : decode cX6_undo 14 = .ok (.getfield 22, 3) := by decide +kernel
theorem dX6_undo_17 : decode cX6_undo 17 = .ok (.aload_n 0, 1) := by decide +kernel
theorem dX6_undo_18 : decode cX6_undo 18 = .ok (.getfield 10, 3) := by decide +kernel
theorem dX6_undo_21 : decode cX6_undo 21 = .ok (.invokevirtual 176, 3) := by decide +kernel
theorem dX6_undo_24 : decode cX6_undo 24 = .ok (.aload_n 0, 1) := by decide +kernel
theorem dX6_undo_25 : decode cX6_undo 25 = .ok (.getfield 22, 3) := by decide +kernel
theorem dX6_undo_28 : decode cX6_undo 28 = .ok (.getfield 175, 3) := by decide +kernel
theorem dX6_undo_31 : decode cX6_undo 31 = .ok (.ireturn, 1) := by decide +kernel
theorem dX6_keep_0 : decode cX6_keep 0 = .ok (.iload_n 1, 1) := by decide +kernel
theorem dX6_keep_1 : decode cX6_keep 1 = .ok (.invokestatic 179, 3) := by decide +kernel
theorem dX6_keep_4 : decode cX6_keep 4 = .ok (.ifCond .ne 6, 3) := by decide +kernel
theorem dX6_keep_7 : decode cX6_keep 7 = .ok (.ldc 45, 2) := by decide +kernel
theorem dX6_keep_9 : decode cX6_keep 9 = .ok (.ireturn, 1) := by decide +kernel
theorem dX6_keep_10 : decode cX6_keep 10 = .ok (.aload_n 0, 1) := by decide +kernel
theorem dX6_keep_11 : decode cX6_keep 11 = .ok (.getfield 26, 3) := by decide +kernel
theorem dX6_keep_14 : decode cX6_keep 14 = .ok (.iload_n 1, 1) := by decide +kernel
theorem dX6_keep_15 : decode cX6_keep 15 = .ok (.aaload, 1) := by decide +kernel
theorem dX6_keep_16 : decode cX6_keep 16 = .ok (.aload_n 0, 1) := by decide +kernel
theorem dX6_keep_17 : decode cX6_keep 17 = .ok (.getfield 10, 3) := by decide +kernel
theorem dX6_keep_20 : decode cX6_keep 20 = .ok (.invokevirtual 182, 3) := by decide +kernel
theorem dX6_keep_23 : decode cX6_keep 23 = .ok (.aload_n 0, 1) := by decide +kernel
theorem dX6_keep_24 : decode cX6_keep 24 = .ok (.getfield 30, 3) := by decide +kernel
theorem dX6_keep_27 : decode cX6_keep 27 = .ok (.iload_n 1, 1) := by decide +kernel
theorem dX6_keep_28 : decode cX6_keep 28 = .ok (.iconst 1, 1) := by decide +kernel
theorem dX6_keep_29 : decode cX6_keep 29 = .ok (.bastore, 1) := by decide +kernel
theorem dX6_keep_30 : decode cX6_keep 30 = .ok (.aload_n 0, 1) := by decide +kernel
theorem dX6_keep_31 : decode cX6_keep 31 = .ok (.getfield 10, 3) := by decide +kernel
theorem dX6_keep_34 : decode cX6_keep 34 = .ok (.getfield 185, 3) := by decide +kernel
theorem dX6_keep_37 : decode cX6_keep 37 = .ok (.ireturn, 1) := by decide +kernel
theorem dX6_back_0 : decode cX6_back 0 = .ok (.iload_n 1, 1) := by decide +kernel
theorem dX6_back_1 : decode cX6_back 1 = .ok (.invokestatic 179, 3) := by decide +kernel
theorem dX6_back_4 : decode cX6_back 4 = .ok (.ifCond .ne 6, 3) := by decide +kernel
theorem dX6_back_7 : decode cX6_back 7 = .ok (.ldc 45, 2) := by decide +kernel
theorem dX6_back_9 : decode cX6_back 9 = .ok (.ireturn, 1) := by decide +kernel
theorem dX6_back_10 : decode cX6_back 10 = .ok (.aload_n 0, 1) := by decide +kernel
theorem dX6_back_11 : decode cX6_back 11 = .ok (.getfield 30, 3) := by decide +kernel
theorem dX6_back_14 : decode cX6_back 14 = .ok (.iload_n 1, 1) := by decide +kernel
theorem dX6_back_15 : decode cX6_back 15 = .ok (.baload, 1) := by decide +kernel
theorem dX6_back_16 : decode cX6_back 16 = .ok (.ifCond .ne 6, 3) := by decide +kernel
theorem dX6_back_19 : decode cX6_back 19 = .ok (.ldc 89, 2) := by decide +kernel
theorem dX6_back_21 : decode cX6_back 21 = .ok (.ireturn, 1) := by decide +kernel
theorem dX6_back_22 : decode cX6_back 22 = .ok (.aload_n 0, 1) := by decide +kernel
theorem dX6_back_23 : decode cX6_back 23 = .ok (.getfield 22, 3) := by decide +kernel
theorem dX6_back_26 : decode cX6_back 26 = .ok (.aload_n 0, 1) := by decide +kernel
theorem dX6_back_27 : decode cX6_back 27 = .ok (.getfield 10, 3) := by decide +kernel
theorem dX6_back_30 : decode cX6_back 30 = .ok (.invokevirtual 57, 3) := by decide +kernel
theorem dX6_back_33 : decode cX6_back 33 = .ok (.aload_n 0, 1) := by decide +kernel
theorem dX6_back_34 : decode cX6_back 34 = .ok (.getfield 10, 3) := by decide +kernel
theorem dX6_back_37 : decode cX6_back 37 = .ok (.aload_n 0, 1) := by decide +kernel
theorem dX6_back_38 : decode cX6_back 38 = .ok (.getfield 26, 3) := by decide +kernel
theorem dX6_back_41 : decode cX6_back 41 = .ok (.iload_n 1, 1) := by decide +kernel
theorem dX6_back_42 : decode cX6_back 42 = .ok (.aaload, 1) := by decide +kernel
theorem dX6_back_43 : decode cX6_back 43 = .ok (.invokevirtual 182, 3) := by decide +kernel
theorem dX6_back_46 : decode cX6_back 46 = .ok (.aload_n 0, 1) := by decide +kernel
theorem dX6_back_47 : decode cX6_back 47 = .ok (.getfield 10, 3) := by decide +kernel
theorem dX6_back_50 : decode cX6_back 50 = .ok (.getfield 185, 3) := by decide +kernel
theorem dX6_back_53 : decode cX6_back 53 = .ok (.ireturn, 1) := by decide +kernel
theorem dX6_house_0 : decode cX6_house 0 = .ok (.aload_n 0, 1) := by decide +kernel
theorem dX6_house_1 : decode cX6_house 1 = .ok (.iload_n 1, 1) := by decide +kernel
theorem dX6_house_2 : decode cX6_house 2 = .ok (.invokevirtual 65, 3) := by decide +kernel
theorem dX6_house_5 : decode cX6_house 5 = .ok (.ifCond .eq 13, 3) := by decide +kernel
theorem dX6_house_8 : decode cX6_house 8 = .ok (.iload_n 2, 1) := by decide +kernel
theorem dX6_house_9 : decode cX6_house 9 = .ok (.iconst 0, 1) := by decide +kernel
theorem dX6_house_10 : decode cX6_house 10 = .ok (.bipush 10, 2) := by decide +kernel
theorem dX6_house_12 : decode cX6_house 12 = .ok (.invokestatic 41, 3) := by decide +kernel
theorem dX6_house_15 : decode cX6_house 15 = .ok (.ifCond .ne 6, 3) := by decide +kernel
theorem dX6_house_18 : decode cX6_house 18 = .ok (.ldc 45, 2) := by decide +kernel
theorem dX6_house_20 : decode cX6_house 20 = .ok (.ireturn, 1) := by decide +kernel
theorem dX6_house_21 : decode cX6_house 21 = .ok (.iload_n 2, 1) := by decide +kernel
theorem dX6_house_22 : decode cX6_house 22 = .ok (.lookupswitch 79 #[(5, 34), (9, 55), (10, 67)], 34) := by decide +kernel
theorem dX6_house_56 : decode cX6_house 56 = .ok (.aload_n 0, 1) := by decide +kernel
theorem dX6_house_57 : decode cX6_house 57 = .ok (.getfield 10, 3) := by decide +kernel
theorem dX6_house_60 : decode cX6_house 60 = .ok (.getfield 46, 3) := by decide +kernel
theorem dX6_house_63 : decode cX6_house 63 = .ok (.iload_n 1, 1) := by decide +kernel
theorem dX6_house_64 : decode cX6_house 64 = .ok (.aload_n 0, 1) := by decide +kernel
theorem dX6_house_65 : decode cX6_house 65 = .ok (.getfield 10, 3) := by decide +kernel
theorem dX6_house_68 : decode cX6_house 68 = .ok (.getfield 124, 3) := by decide +kernel
theorem dX6_house_71 : decode cX6_house 71 = .ok (.iconst 0, 1) := by decide +kernel
theorem dX6_house_72 : decode cX6_house 72 = .ok (.iaload, 1) := by decide +kernel
theorem dX6_house_73 : decode cX6_house 73 = .ok (.invokevirtual 188, 3) := by decide +kernel
theorem dX6_house_76 : decode cX6_house 76 = .ok (.ireturn, 1) := by decide +kernel
theorem dX6_house_77 : decode cX6_house 77 = .ok (.aload_n 0, 1) := by decide +kernel
theorem dX6_house_78 : decode cX6_house 78 = .ok (.getfield 10, 3) := by decide +kernel
theorem dX6_house_81 : decode cX6_house 81 = .ok (.getfield 80, 3) := by decide +kernel
theorem dX6_house_84 : decode cX6_house 84 = .ok (.iload_n 1, 1) := by decide +kernel
theorem dX6_house_85 : decode cX6_house 85 = .ok (.invokevirtual 191, 3) := by decide +kernel
theorem dX6_house_88 : decode cX6_house 88 = .ok (.ireturn, 1) := by decide +kernel
theorem dX6_house_89 : decode cX6_house 89 = .ok (.aload_n 0, 1) := by decide +kernel
theorem dX6_house_90 : decode cX6_house 90 = .ok (.getfield 10, 3) := by decide +kernel
theorem dX6_house_93 : decode cX6_house 93 = .ok (.getfield 80, 3) := by decide +kernel
theorem dX6_house_96 : decode cX6_house 96 = .ok (.iload_n 1, 1) := by decide +kernel
theorem dX6_house_97 : decode cX6_house 97 = .ok (.invokevirtual 194, 3) := by decide +kernel
theorem dX6_house_100 : decode cX6_house 100 = .ok (.ireturn, 1) := by decide +kernel
theorem dX6_house_101 : decode cX6_house 101 = .ok (.aload_n 0, 1) := by decide +kernel
theorem dX6_house_102 : decode cX6_house 102 = .ok (.getfield 10, 3) := by decide +kernel
theorem dX6_house_105 : decode cX6_house 105 = .ok (.getfield 46, 3) := by decide +kernel
theorem dX6_house_108 : decode cX6_house 108 = .ok (.iload_n 1, 1) := by decide +kernel
theorem dX6_house_109 : decode cX6_house 109 = .ok (.iload_n 2, 1) := by decide +kernel
theorem dX6_house_110 : decode cX6_house 110 = .ok (.invokevirtual 73, 3) := by decide +kernel
theorem dX6_house_113 : decode cX6_house 113 = .ok (.ireturn, 1) := by decide +kernel
theorem dX6_loan_0 : decode cX6_loan 0 = .ok (.aload_n 0, 1) := by decide +kernel
theorem dX6_loan_1 : decode cX6_loan 1 = .ok (.iload_n 1, 1) := by decide +kernel
theorem dX6_loan_2 : decode cX6_loan 2 = .ok (.invokevirtual 107, 3) := by decide +kernel
theorem dX6_loan_5 : decode cX6_loan 5 = .ok (.ifCond .eq 12, 3) := by decide +kernel
theorem dX6_loan_8 : decode cX6_loan 8 = .ok (.iload_n 2, 1) := by decide +kernel
theorem dX6_loan_9 : decode cX6_loan 9 = .ok (.iconst 0, 1) := by decide +kernel
theorem dX6_loan_10 : decode cX6_loan 10 = .ok (.iconst 2, 1) := by decide +kernel
theorem dX6_loan_11 : decode cX6_loan 11 = .ok (.invokestatic 41, 3) := by decide +kernel
theorem dX6_loan_14 : decode cX6_loan 14 = .ok (.ifCond .ne 6, 3) := by decide +kernel
theorem dX6_loan_17 : decode cX6_loan 17 = .ok (.ldc 45, 2) := by decide +kernel
theorem dX6_loan_19 : decode cX6_loan 19 = .ok (.ireturn, 1) := by decide +kernel
theorem dX6_loan_20 : decode cX6_loan 20 = .ok (.aload_n 0, 1) := by decide +kernel
theorem dX6_loan_21 : decode cX6_loan 21 = .ok (.getfield 10, 3) := by decide +kernel
theorem dX6_loan_24 : decode cX6_loan 24 = .ok (.getfield 80, 3) := by decide +kernel
theorem dX6_loan_27 : decode cX6_loan 27 = .ok (.iload_n 1, 1) := by decide +kernel
theorem dX6_loan_28 : decode cX6_loan 28 = .ok (.iload_n 2, 1) := by decide +kernel
theorem dX6_loan_29 : decode cX6_loan 29 = .ok (.invokevirtual 197, 3) := by decide +kernel
theorem dX6_loan_32 : decode cX6_loan 32 = .ok (.ireturn, 1) := by decide +kernel
theorem dX6_battery_0 : decode cX6_battery 0 = .ok (.iload_n 1, 1) := by decide +kernel
theorem dX6_battery_1 : decode cX6_battery 1 = .ok (.invokestatic 127, 3) := by decide +kernel
theorem dX6_battery_4 : decode cX6_battery 4 = .ok (.ifCond .eq 12, 3) := by decide +kernel
theorem dX6_battery_7 : decode cX6_battery 7 = .ok (.iload_n 2, 1) := by decide +kernel
theorem dX6_battery_8 : decode cX6_battery 8 = .ok (.iconst 0, 1) := by decide +kernel
theorem dX6_battery_9 : decode cX6_battery 9 = .ok (.iconst 4, 1) := by decide +kernel
theorem dX6_battery_10 : decode cX6_battery 10 = .ok (.invokestatic 41, 3) := by decide +kernel
theorem dX6_battery_13 : decode cX6_battery 13 = .ok (.ifCond .ne 6, 3) := by decide +kernel
theorem dX6_battery_16 : decode cX6_battery 16 = .ok (.ldc 45, 2) := by decide +kernel
theorem dX6_battery_18 : decode cX6_battery 18 = .ok (.ireturn, 1) := by decide +kernel
theorem dX6_battery_19 : decode cX6_battery 19 = .ok (.aload_n 0, 1) := by decide +kernel
theorem dX6_battery_20 : decode cX6_battery 20 = .ok (.getfield 10, 3) := by decide +kernel
theorem dX6_battery_23 : decode cX6_battery 23 = .ok (.getfield 136, 3) := by decide +kernel
theorem dX6_battery_26 : decode cX6_battery 26 = .ok (.iload_n 1, 1) := by decide +kernel
theorem dX6_battery_27 : decode cX6_battery 27 = .ok (.iload_n 2, 1) := by decide +kernel
theorem dX6_battery_28 : decode cX6_battery 28 = .ok (.invokevirtual 140, 3) := by decide +kernel
theorem dX6_battery_31 : decode cX6_battery 31 = .ok (.ireturn, 1) := by decide +kernel
theorem dX6_feeder_0 : decode cX6_feeder 0 = .ok (.iload_n 1, 1) := by decide +kernel
theorem dX6_feeder_1 : decode cX6_feeder 1 = .ok (.iconst 0, 1) := by decide +kernel
theorem dX6_feeder_2 : decode cX6_feeder 2 = .ok (.iconst 2, 1) := by decide +kernel
theorem dX6_feeder_3 : decode cX6_feeder 3 = .ok (.invokestatic 41, 3) := by decide +kernel
theorem dX6_feeder_6 : decode cX6_feeder 6 = .ok (.ifCond .eq 12, 3) := by decide +kernel
theorem dX6_feeder_9 : decode cX6_feeder 9 = .ok (.iload_n 2, 1) := by decide +kernel
theorem dX6_feeder_10 : decode cX6_feeder 10 = .ok (.iconst 0, 1) := by decide +kernel
theorem dX6_feeder_11 : decode cX6_feeder 11 = .ok (.iconst 4, 1) := by decide +kernel
theorem dX6_feeder_12 : decode cX6_feeder 12 = .ok (.invokestatic 41, 3) := by decide +kernel
theorem dX6_feeder_15 : decode cX6_feeder 15 = .ok (.ifCond .ne 6, 3) := by decide +kernel
theorem dX6_feeder_18 : decode cX6_feeder 18 = .ok (.ldc 45, 2) := by decide +kernel
theorem dX6_feeder_20 : decode cX6_feeder 20 = .ok (.ireturn, 1) := by decide +kernel
theorem dX6_feeder_21 : decode cX6_feeder 21 = .ok (.iload_n 2, 1) := by decide +kernel
theorem dX6_feeder_22 : decode cX6_feeder 22 = .ok (.tableswitch 95 0 3 #[30, 42, 63, 85], 30) := by decide +kernel
theorem dX6_feeder_52 : decode cX6_feeder 52 = .ok (.aload_n 0, 1) := by decide +kernel
theorem dX6_feeder_53 : decode cX6_feeder 53 = .ok (.getfield 10, 3) := by decide +kernel
theorem dX6_feeder_56 : decode cX6_feeder 56 = .ok (.getfield 46, 3) := by decide +kernel
theorem dX6_feeder_59 : decode cX6_feeder 59 = .ok (.iload_n 1, 1) := by decide +kernel
theorem dX6_feeder_60 : decode cX6_feeder 60 = .ok (.invokevirtual 198, 3) := by decide +kernel
theorem dX6_feeder_63 : decode cX6_feeder 63 = .ok (.ireturn, 1) := by decide +kernel
theorem dX6_feeder_64 : decode cX6_feeder 64 = .ok (.aload_n 0, 1) := by decide +kernel
theorem dX6_feeder_65 : decode cX6_feeder 65 = .ok (.getfield 10, 3) := by decide +kernel
theorem dX6_feeder_68 : decode cX6_feeder 68 = .ok (.getfield 46, 3) := by decide +kernel
theorem dX6_feeder_71 : decode cX6_feeder 71 = .ok (.iload_n 1, 1) := by decide +kernel
theorem dX6_feeder_72 : decode cX6_feeder 72 = .ok (.aload_n 0, 1) := by decide +kernel
theorem dX6_feeder_73 : decode cX6_feeder 73 = .ok (.getfield 10, 3) := by decide +kernel
theorem dX6_feeder_76 : decode cX6_feeder 76 = .ok (.getfield 124, 3) := by decide +kernel
theorem dX6_feeder_79 : decode cX6_feeder 79 = .ok (.iconst 0, 1) := by decide +kernel
theorem dX6_feeder_80 : decode cX6_feeder 80 = .ok (.iaload, 1) := by decide +kernel
theorem dX6_feeder_81 : decode cX6_feeder 81 = .ok (.invokevirtual 201, 3) := by decide +kernel
theorem dX6_feeder_84 : decode cX6_feeder 84 = .ok (.ireturn, 1) := by decide +kernel
theorem dX6_feeder_85 : decode cX6_feeder 85 = .ok (.aload_n 0, 1) := by decide +kernel
theorem dX6_feeder_86 : decode cX6_feeder 86 = .ok (.getfield 10, 3) := by decide +kernel
theorem dX6_feeder_89 : decode cX6_feeder 89 = .ok (.getfield 46, 3) := by decide +kernel
theorem dX6_feeder_92 : decode cX6_feeder 92 = .ok (.iload_n 1, 1) := by decide +kernel
theorem dX6_feeder_93 : decode cX6_feeder 93 = .ok (.aload_n 0, 1) := by decide +kernel
theorem dX6_feeder_94 : decode cX6_feeder 94 = .ok (.getfield 10, 3) := by decide +kernel
theorem dX6_feeder_97 : decode cX6_feeder 97 = .ok (.getfield 46, 3) := by decide +kernel
theorem dX6_feeder_100 : decode cX6_feeder 100 = .ok (.getfield 101, 3) := by decide +kernel
theorem dX6_feeder_103 : decode cX6_feeder 103 = .ok (.invokevirtual 204, 3) := by decide +kernel
theorem dX6_feeder_106 : decode cX6_feeder 106 = .ok (.ireturn, 1) := by decide +kernel
theorem dX6_feeder_107 : decode cX6_feeder 107 = .ok (.aload_n 0, 1) := by decide +kernel
theorem dX6_feeder_108 : decode cX6_feeder 108 = .ok (.getfield 10, 3) := by decide +kernel
theorem dX6_feeder_111 : decode cX6_feeder 111 = .ok (.getfield 208, 3) := by decide +kernel
theorem dX6_feeder_114 : decode cX6_feeder 114 = .ok (.iload_n 1, 1) := by decide +kernel
theorem dX6_feeder_115 : decode cX6_feeder 115 = .ok (.iaload, 1) := by decide +kernel
theorem dX6_feeder_116 : decode cX6_feeder 116 = .ok (.ireturn, 1) := by decide +kernel
theorem dX6_feeder_117 : decode cX6_feeder 117 = .ok (.aload_n 0, 1) := by decide +kernel
theorem dX6_feeder_118 : decode cX6_feeder 118 = .ok (.getfield 10, 3) := by decide +kernel
theorem dX6_feeder_121 : decode cX6_feeder 121 = .ok (.getfield 211, 3) := by decide +kernel
theorem dX6_feeder_124 : decode cX6_feeder 124 = .ok (.iload_n 1, 1) := by decide +kernel
theorem dX6_feeder_125 : decode cX6_feeder 125 = .ok (.iaload, 1) := by decide +kernel
theorem dX6_feeder_126 : decode cX6_feeder 126 = .ok (.ireturn, 1) := by decide +kernel
theorem dX6_account_0 : decode cX6_account 0 = .ok (.iload_n 1, 1) := by decide +kernel
theorem dX6_account_1 : decode cX6_account 1 = .ok (.iconst 0, 1) := by decide +kernel
theorem dX6_account_2 : decode cX6_account 2 = .ok (.bipush 7, 2) := by decide +kernel
theorem dX6_account_4 : decode cX6_account 4 = .ok (.invokestatic 41, 3) := by decide +kernel
theorem dX6_account_7 : decode cX6_account 7 = .ok (.ifCond .ne 6, 3) := by decide +kernel
theorem dX6_account_10 : decode cX6_account 10 = .ok (.ldc 45, 2) := by decide +kernel
theorem dX6_account_12 : decode cX6_account 12 = .ok (.ireturn, 1) := by decide +kernel
theorem dX6_account_13 : decode cX6_account 13 = .ok (.iload_n 1, 1) := by decide +kernel
theorem dX6_account_14 : decode cX6_account 14 = .ok (.iconst 5, 1) := by decide +kernel
theorem dX6_account_15 : decode cX6_account 15 = .ok (.if_icmp .ne 16, 3) := by decide +kernel
theorem dX6_account_18 : decode cX6_account 18 = .ok (.aload_n 0, 1) := by decide +kernel
theorem dX6_account_19 : decode cX6_account 19 = .ok (.getfield 10, 3) := by decide +kernel
theorem dX6_account_22 : decode cX6_account 22 = .ok (.getfield 136, 3) := by decide +kernel
theorem dX6_account_25 : decode cX6_account 25 = .ok (.invokevirtual 214, 3) := by decide +kernel
theorem dX6_account_28 : decode cX6_account 28 = .ok (.goto 12, 3) := by decide +kernel
theorem dX6_account_31 : decode cX6_account 31 = .ok (.aload_n 0, 1) := by decide +kernel
theorem dX6_account_32 : decode cX6_account 32 = .ok (.getfield 10, 3) := by decide +kernel
theorem dX6_account_35 : decode cX6_account 35 = .ok (.getfield 144, 3) := by decide +kernel
theorem dX6_account_38 : decode cX6_account 38 = .ok (.iload_n 1, 1) := by decide +kernel
theorem dX6_account_39 : decode cX6_account 39 = .ok (.iaload, 1) := by decide +kernel
theorem dX6_account_40 : decode cX6_account 40 = .ok (.ireturn, 1) := by decide +kernel
theorem dX6_supply_0 : decode cX6_supply 0 = .ok (.iload_n 1, 1) := by decide +kernel
theorem dX6_supply_1 : decode cX6_supply 1 = .ok (.ifCond .ge 8, 3) := by decide +kernel
theorem dX6_supply_4 : decode cX6_supply 4 = .ok (.ldc 45, 2) := by decide +kernel
theorem dX6_supply_6 : decode cX6_supply 6 = .ok (.goto 11, 3) := by decide +kernel
theorem dX6_supply_9 : decode cX6_supply 9 = .ok (.aload_n 0, 1) := by decide +kernel
theorem dX6_supply_10 : decode cX6_supply 10 = .ok (.getfield 10, 3) := by decide +kernel
theorem dX6_supply_13 : decode cX6_supply 13 = .ok (.iload_n 1, 1) := by decide +kernel
theorem dX6_supply_14 : decode cX6_supply 14 = .ok (.invokevirtual 217, 3) := by decide +kernel
theorem dX6_supply_17 : decode cX6_supply 17 = .ok (.ireturn, 1) := by decide +kernel
theorem dX6_count_0 : decode cX6_count 0 = .ok (.iload_n 1, 1) := by decide +kernel
theorem dX6_count_1 : decode cX6_count 1 = .ok (.tableswitch 142 0 7 #[47, 58, 69, 77, 85, 93, 101, 131], 47) := by decide +kernel
theorem dX6_count_48 : decode cX6_count 48 = .ok (.aload_n 0, 1) := by decide +kernel
theorem dX6_count_49 : decode cX6_count 49 = .ok (.getfield 10, 3) := by decide +kernel
theorem dX6_count_52 : decode cX6_count 52 = .ok (.getfield 46, 3) := by decide +kernel
theorem dX6_count_55 : decode cX6_count 55 = .ok (.getfield 50, 3) := by decide +kernel
theorem dX6_count_58 : decode cX6_count 58 = .ok (.ireturn, 1) := by decide +kernel
theorem dX6_count_59 : decode cX6_count 59 = .ok (.aload_n 0, 1) := by decide +kernel
theorem dX6_count_60 : decode cX6_count 60 = .ok (.getfield 10, 3) := by decide +kernel
theorem dX6_count_63 : decode cX6_count 63 = .ok (.getfield 80, 3) := by decide +kernel
theorem dX6_count_66 : decode cX6_count 66 = .ok (.getfield 104, 3) := by decide +kernel
theorem dX6_count_69 : decode cX6_count 69 = .ok (.ireturn, 1) := by decide +kernel
theorem dX6_count_70 : decode cX6_count 70 = .ok (.aload_n 0, 1) := by decide +kernel
theorem dX6_count_71 : decode cX6_count 71 = .ok (.getfield 10, 3) := by decide +kernel
theorem dX6_count_74 : decode cX6_count 74 = .ok (.getfield 185, 3) := by decide +kernel
theorem dX6_count_77 : decode cX6_count 77 = .ok (.ireturn, 1) := by decide +kernel
theorem dX6_count_78 : decode cX6_count 78 = .ok (.aload_n 0, 1) := by decide +kernel
theorem dX6_count_79 : decode cX6_count 79 = .ok (.getfield 10, 3) := by decide +kernel
theorem dX6_count_82 : decode cX6_count 82 = .ok (.getfield 172, 3) := by decide +kernel
theorem dX6_count_85 : decode cX6_count 85 = .ok (.ireturn, 1) := by decide +kernel
theorem dX6_count_86 : decode cX6_count 86 = .ok (.aload_n 0, 1) := by decide +kernel
theorem dX6_count_87 : decode cX6_count 87 = .ok (.getfield 10, 3) := by decide +kernel
theorem dX6_count_90 : decode cX6_count 90 = .ok (.getfield 220, 3) := by decide +kernel
theorem dX6_count_93 : decode cX6_count 93 = .ok (.ireturn, 1) := by decide +kernel
theorem dX6_count_94 : decode cX6_count 94 = .ok (.aload_n 0, 1) := by decide +kernel
theorem dX6_count_95 : decode cX6_count 95 = .ok (.getfield 22, 3) := by decide +kernel
theorem dX6_count_98 : decode cX6_count 98 = .ok (.getfield 175, 3) := by decide +kernel
theorem dX6_count_101 : decode cX6_count 101 = .ok (.ireturn, 1) := by decide +kernel
theorem dX6_count_102 : decode cX6_count 102 = .ok (.aload_n 0, 1) := by decide +kernel
theorem dX6_count_103 : decode cX6_count 103 = .ok (.getfield 30, 3) := by decide +kernel
theorem dX6_count_106 : decode cX6_count 106 = .ok (.iconst 0, 1) := by decide +kernel
theorem dX6_count_107 : decode cX6_count 107 = .ok (.baload, 1) := by decide +kernel
theorem dX6_count_108 : decode cX6_count 108 = .ok (.ifCond .eq 7, 3) := by decide +kernel
theorem dX6_count_111 : decode cX6_count 111 = .ok (.iconst 1, 1) := by decide +kernel
theorem dX6_count_112 : decode cX6_count 112 = .ok (.goto 4, 3) := by decide +kernel
theorem dX6_count_115 : decode cX6_count 115 = .ok (.iconst 0, 1) := by decide +kernel
theorem dX6_count_116 : decode cX6_count 116 = .ok (.aload_n 0, 1) := by decide +kernel
theorem dX6_count_117 : decode cX6_count 117 = .ok (.getfield 30, 3) := by decide +kernel
theorem dX6_count_120 : decode cX6_count 120 = .ok (.iconst 1, 1) := by decide +kernel
theorem dX6_count_121 : decode cX6_count 121 = .ok (.baload, 1) := by decide +kernel
theorem dX6_count_122 : decode cX6_count 122 = .ok (.ifCond .eq 7, 3) := by decide +kernel
theorem dX6_count_125 : decode cX6_count 125 = .ok (.iconst 2, 1) := by decide +kernel
theorem dX6_count_126 : decode cX6_count 126 = .ok (.goto 4, 3) := by decide +kernel
theorem dX6_count_129 : decode cX6_count 129 = .ok (.iconst 0, 1) := by decide +kernel
theorem dX6_count_130 : decode cX6_count 130 = .ok (.iadd, 1) := by decide +kernel
theorem dX6_count_131 : decode cX6_count 131 = .ok (.ireturn, 1) := by decide +kernel
theorem dX6_count_132 : decode cX6_count 132 = .ok (.aload_n 0, 1) := by decide +kernel
theorem dX6_count_133 : decode cX6_count 133 = .ok (.getfield 10, 3) := by decide +kernel
theorem dX6_count_136 : decode cX6_count 136 = .ok (.getfield 46, 3) := by decide +kernel
theorem dX6_count_139 : decode cX6_count 139 = .ok (.invokevirtual 223, 3) := by decide +kernel
theorem dX6_count_142 : decode cX6_count 142 = .ok (.ireturn, 1) := by decide +kernel
theorem dX6_count_143 : decode cX6_count 143 = .ok (.ldc 45, 2) := by decide +kernel
theorem dX6_count_145 : decode cX6_count 145 = .ok (.ireturn, 1) := by decide +kernel
theorem dX6_setting_0 : decode cX6_setting 0 = .ok (.iload_n 1, 1) := by decide +kernel
theorem dX6_setting_1 : decode cX6_setting 1 = .ok (.invokestatic 118, 3) := by decide +kernel
theorem dX6_setting_4 : decode cX6_setting 4 = .ok (.ifCond .eq 15, 3) := by decide +kernel
theorem dX6_setting_7 : decode cX6_setting 7 = .ok (.aload_n 0, 1) := by decide +kernel
theorem dX6_setting_8 : decode cX6_setting 8 = .ok (.getfield 10, 3) := by decide +kernel
theorem dX6_setting_11 : decode cX6_setting 11 = .ok (.getfield 124, 3) := by decide +kernel
theorem dX6_setting_14 : decode cX6_setting 14 = .ok (.iload_n 1, 1) := by decide +kernel
theorem dX6_setting_15 : decode cX6_setting 15 = .ok (.iaload, 1) := by decide +kernel
theorem dX6_setting_16 : decode cX6_setting 16 = .ok (.goto 5, 3) := by decide +kernel
theorem dX6_setting_19 : decode cX6_setting 19 = .ok (.ldc 45, 2) := by decide +kernel
theorem dX6_setting_21 : decode cX6_setting 21 = .ok (.ireturn, 1) := by decide +kernel
theorem dX6_ifRun_0 : decode cX6_ifRun 0 = .ok (.iload_n 1, 1) := by decide +kernel
theorem dX6_ifRun_1 : decode cX6_ifRun 1 = .ok (.iconst 1, 1) := by decide +kernel
theorem dX6_ifRun_2 : decode cX6_ifRun 2 = .ok (.bipush 100, 2) := by decide +kernel
theorem dX6_ifRun_4 : decode cX6_ifRun 4 = .ok (.invokestatic 41, 3) := by decide +kernel
theorem dX6_ifRun_7 : decode cX6_ifRun 7 = .ok (.ifCond .eq 12, 3) := by decide +kernel
theorem dX6_ifRun_10 : decode cX6_ifRun 10 = .ok (.iload_n 2, 1) := by decide +kernel
theorem dX6_ifRun_11 : decode cX6_ifRun 11 = .ok (.iconst 0, 1) := by decide +kernel
theorem dX6_ifRun_12 : decode cX6_ifRun 12 = .ok (.iconst 4, 1) := by decide +kernel
theorem dX6_ifRun_13 : decode cX6_ifRun 13 = .ok (.invokestatic 41, 3) := by decide +kernel
theorem dX6_ifRun_16 : decode cX6_ifRun 16 = .ok (.ifCond .ne 6, 3) := by decide +kernel
theorem dX6_ifRun_19 : decode cX6_ifRun 19 = .ok (.ldc 45, 2) := by decide +kernel
theorem dX6_ifRun_21 : decode cX6_ifRun 21 = .ok (.ireturn, 1) := by decide +kernel
theorem dX6_ifRun_22 : decode cX6_ifRun 22 = .ok (.aload_n 0, 1) := by decide +kernel
theorem dX6_ifRun_23 : decode cX6_ifRun 23 = .ok (.getfield 16, 3) := by decide +kernel
theorem dX6_ifRun_26 : decode cX6_ifRun 26 = .ok (.aload_n 0, 1) := by decide +kernel
theorem dX6_ifRun_27 : decode cX6_ifRun 27 = .ok (.getfield 10, 3) := by decide +kernel
theorem dX6_ifRun_30 : decode cX6_ifRun 30 = .ok (.invokevirtual 182, 3) := by decide +kernel
theorem dX6_ifRun_33 : decode cX6_ifRun 33 = .ok (.aload_n 0, 1) := by decide +kernel
theorem dX6_ifRun_34 : decode cX6_ifRun 34 = .ok (.getfield 16, 3) := by decide +kernel
theorem dX6_ifRun_37 : decode cX6_ifRun 37 = .ok (.iload_n 1, 1) := by decide +kernel
theorem dX6_ifRun_38 : decode cX6_ifRun 38 = .ok (.invokevirtual 151, 3) := by decide +kernel
theorem dX6_ifRun_41 : decode cX6_ifRun 41 = .ok (.aload_n 0, 1) := by decide +kernel
theorem dX6_ifRun_42 : decode cX6_ifRun 42 = .ok (.iload_n 2, 1) := by decide +kernel
theorem dX6_ifRun_43 : decode cX6_ifRun 43 = .ok (.invokevirtual 226, 3) := by decide +kernel
theorem dX6_ifRun_46 : decode cX6_ifRun 46 = .ok (.ireturn, 1) := by decide +kernel
theorem dX6_darkIn_0 : decode cX6_darkIn 0 = .ok (.aload_n 0, 1) := by decide +kernel
theorem dX6_darkIn_1 : decode cX6_darkIn 1 = .ok (.iload_n 1, 1) := by decide +kernel
theorem dX6_darkIn_2 : decode cX6_darkIn 2 = .ok (.invokevirtual 65, 3) := by decide +kernel
theorem dX6_darkIn_5 : decode cX6_darkIn 5 = .ok (.ifCond .ne 6, 3) := by decide +kernel
theorem dX6_darkIn_8 : decode cX6_darkIn 8 = .ok (.ldc 45, 2) := by decide +kernel
theorem dX6_darkIn_10 : decode cX6_darkIn 10 = .ok (.ireturn, 1) := by decide +kernel
theorem dX6_darkIn_11 : decode cX6_darkIn 11 = .ok (.aload_n 0, 1) := by decide +kernel
theorem dX6_darkIn_12 : decode cX6_darkIn 12 = .ok (.getfield 16, 3) := by decide +kernel
theorem dX6_darkIn_15 : decode cX6_darkIn 15 = .ok (.aload_n 0, 1) := by decide +kernel
theorem dX6_darkIn_16 : decode cX6_darkIn 16 = .ok (.getfield 10, 3) := by decide +kernel
theorem dX6_darkIn_19 : decode cX6_darkIn 19 = .ok (.invokevirtual 182, 3) := by decide +kernel
theorem dX6_darkIn_22 : decode cX6_darkIn 22 = .ok (.aload_n 0, 1) := by decide +kernel
theorem dX6_darkIn_23 : decode cX6_darkIn 23 = .ok (.getfield 16, 3) := by decide +kernel
theorem dX6_darkIn_26 : decode cX6_darkIn 26 = .ok (.iload_n 1, 1) := by decide +kernel
theorem dX6_darkIn_27 : decode cX6_darkIn 27 = .ok (.sipush 200, 3) := by decide +kernel
theorem dX6_darkIn_30 : decode cX6_darkIn 30 = .ok (.invokevirtual 229, 3) := by decide +kernel
theorem dX6_darkIn_33 : decode cX6_darkIn 33 = .ok (.istore_n 2, 1) := by decide +kernel
theorem dX6_darkIn_34 : decode cX6_darkIn 34 = .ok (.iload_n 2, 1) := by decide +kernel
theorem dX6_darkIn_35 : decode cX6_darkIn 35 = .ok (.sipush 200, 3) := by decide +kernel
theorem dX6_darkIn_38 : decode cX6_darkIn 38 = .ok (.if_icmp .ge 7, 3) := by decide +kernel
theorem dX6_darkIn_41 : decode cX6_darkIn 41 = .ok (.iload_n 2, 1) := by decide +kernel
theorem dX6_darkIn_42 : decode cX6_darkIn 42 = .ok (.goto 5, 3) := by decide +kernel
theorem dX6_darkIn_45 : decode cX6_darkIn 45 = .ok (.ldc 163, 2) := by decide +kernel
theorem dX6_darkIn_47 : decode cX6_darkIn 47 = .ok (.ireturn, 1) := by decide +kernel
theorem dX6_tokenFor_0 : decode cX6_tokenFor 0 = .ok (.aload_n 0, 1) := by decide +kernel
theorem dX6_tokenFor_1 : decode cX6_tokenFor 1 = .ok (.iload_n 1, 1) := by decide +kernel
theorem dX6_tokenFor_2 : decode cX6_tokenFor 2 = .ok (.invokevirtual 65, 3) := by decide +kernel
theorem dX6_tokenFor_5 : decode cX6_tokenFor 5 = .ok (.ifCond .eq 13, 3) := by decide +kernel
theorem dX6_tokenFor_8 : decode cX6_tokenFor 8 = .ok (.iload_n 2, 1) := by decide +kernel
theorem dX6_tokenFor_9 : decode cX6_tokenFor 9 = .ok (.iconst 1, 1) := by decide +kernel
theorem dX6_tokenFor_10 : decode cX6_tokenFor 10 = .ok (.bipush 48, 2) := by decide +kernel
theorem dX6_tokenFor_12 : decode cX6_tokenFor 12 = .ok (.invokestatic 41, 3) := by decide +kernel
theorem dX6_tokenFor_15 : decode cX6_tokenFor 15 = .ok (.ifCond .ne 6, 3) := by decide +kernel
theorem dX6_tokenFor_18 : decode cX6_tokenFor 18 = .ok (.ldc 45, 2) := by decide +kernel
theorem dX6_tokenFor_20 : decode cX6_tokenFor 20 = .ok (.ireturn, 1) := by decide +kernel
theorem dX6_tokenFor_21 : decode cX6_tokenFor 21 = .ok (.iconst (-1), 1) := by decide +kernel
theorem dX6_tokenFor_22 : decode cX6_tokenFor 22 = .ok (.istore_n 3, 1) := by decide +kernel
theorem dX6_tokenFor_23 : decode cX6_tokenFor 23 = .ok (.iconst 0, 1) := by decide +kernel
theorem dX6_tokenFor_24 : decode cX6_tokenFor 24 = .ok (.istore 4, 2) := by decide +kernel
theorem dX6_tokenFor_26 : decode cX6_tokenFor 26 = .ok (.iload 4, 2) := by decide +kernel
theorem dX6_tokenFor_28 : decode cX6_tokenFor 28 = .ok (.sipush 500, 3) := by decide +kernel
theorem dX6_tokenFor_31 : decode cX6_tokenFor 31 = .ok (.if_icmp .gt 58, 3) := by decide +kernel
theorem dX6_tokenFor_34 : decode cX6_tokenFor 34 = .ok (.aload_n 0, 1) := by decide +kernel
theorem dX6_tokenFor_35 : decode cX6_tokenFor 35 = .ok (.getfield 10, 3) := by decide +kernel
theorem dX6_tokenFor_38 : decode cX6_tokenFor 38 = .ok (.iload_n 1, 1) := by decide +kernel
theorem dX6_tokenFor_39 : decode cX6_tokenFor 39 = .ok (.iload 4, 2) := by decide +kernel
theorem dX6_tokenFor_41 : decode cX6_tokenFor 41 = .ok (.invokevirtual 232, 3) := by decide +kernel
theorem dX6_tokenFor_44 : decode cX6_tokenFor 44 = .ok (.istore 5, 2) := by decide +kernel
theorem dX6_tokenFor_46 : decode cX6_tokenFor 46 = .ok (.iload 5, 2) := by decide +kernel
theorem dX6_tokenFor_48 : decode cX6_tokenFor 48 = .ok (.iload_n 3, 1) := by decide +kernel
theorem dX6_tokenFor_49 : decode cX6_tokenFor 49 = .ok (.if_icmp .eq 34, 3) := by decide +kernel
theorem dX6_tokenFor_52 : decode cX6_tokenFor 52 = .ok (.aload_n 0, 1) := by decide +kernel
theorem dX6_tokenFor_53 : decode cX6_tokenFor 53 = .ok (.getfield 10, 3) := by decide +kernel
theorem dX6_tokenFor_56 : decode cX6_tokenFor 56 = .ok (.iload_n 1, 1) := by decide +kernel
theorem dX6_tokenFor_57 : decode cX6_tokenFor 57 = .ok (.iload 4, 2) := by decide +kernel
theorem dX6_tokenFor_59 : decode cX6_tokenFor 59 = .ok (.iload_n 2, 1) := by decide +kernel
theorem dX6_tokenFor_60 : decode cX6_tokenFor 60 = .ok (.invokevirtual 235, 3) := by decide +kernel
theorem dX6_tokenFor_63 : decode cX6_tokenFor 63 = .ok (.ifCond .eq 20, 3) := by decide +kernel
theorem dX6_tokenFor_66 : decode cX6_tokenFor 66 = .ok (.aload_n 0, 1) := by decide +kernel
theorem dX6_tokenFor_67 : decode cX6_tokenFor 67 = .ok (.iload_n 1, 1) := by decide +kernel
theorem dX6_tokenFor_68 : decode cX6_tokenFor 68 = .ok (.iload 4, 2) := by decide +kernel
theorem dX6_tokenFor_70 : decode cX6_tokenFor 70 = .ok (.iload_n 2, 1) := by decide +kernel
theorem dX6_tokenFor_71 : decode cX6_tokenFor 71 = .ok (.invokevirtual 238, 3) := by decide +kernel
theorem dX6_tokenFor_74 : decode cX6_tokenFor 74 = .ok (.ifCond .eq 6, 3) := by decide +kernel
theorem dX6_tokenFor_77 : decode cX6_tokenFor 77 = .ok (.iload 4, 2) := by decide +kernel
theorem dX6_tokenFor_79 : decode cX6_tokenFor 79 = .ok (.ireturn, 1) := by decide +kernel
theorem dX6_tokenFor_80 : decode cX6_tokenFor 80 = .ok (.iload 5, 2) := by decide +kernel
theorem dX6_tokenFor_82 : decode cX6_tokenFor 82 = .ok (.istore_n 3, 1) := by decide +kernel
theorem dX6_tokenFor_83 : decode cX6_tokenFor 83 = .ok (.iinc 4 1, 3) := by decide +kernel
theorem dX6_tokenFor_86 : decode cX6_tokenFor 86 = .ok (.goto (-60), 3) := by decide +kernel
theorem dX6_tokenFor_89 : decode cX6_tokenFor 89 = .ok (.ldc 163, 2) := by decide +kernel
theorem dX6_tokenFor_91 : decode cX6_tokenFor 91 = .ok (.ireturn, 1) := by decide +kernel
theorem dX6_met_0 : decode cX6_met 0 = .ok (.aload_n 0, 1) := by decide +kernel
theorem dX6_met_1 : decode cX6_met 1 = .ok (.getfield 10, 3) := by decide +kernel
theorem dX6_met_4 : decode cX6_met 4 = .ok (.getfield 46, 3) := by decide +kernel
theorem dX6_met_7 : decode cX6_met 7 = .ok (.aload_n 0, 1) := by decide +kernel
theorem dX6_met_8 : decode cX6_met 8 = .ok (.getfield 10, 3) := by decide +kernel
theorem dX6_met_11 : decode cX6_met 11 = .ok (.getfield 46, 3) := by decide +kernel
theorem dX6_met_14 : decode cX6_met 14 = .ok (.getfield 241, 3) := by decide +kernel
theorem dX6_met_17 : decode cX6_met 17 = .ok (.invokevirtual 244, 3) := by decide +kernel
theorem dX6_met_20 : decode cX6_met 20 = .ok (.istore_n 1, 1) := by decide +kernel
theorem dX6_met_21 : decode cX6_met 21 = .ok (.iload_n 1, 1) := by decide +kernel
theorem dX6_met_22 : decode cX6_met 22 = .ok (.ifCond .le 30, 3) := by decide +kernel
theorem dX6_met_25 : decode cX6_met 25 = .ok (.aload_n 0, 1) := by decide +kernel
theorem dX6_met_26 : decode cX6_met 26 = .ok (.getfield 10, 3) := by decide +kernel
theorem dX6_met_29 : decode cX6_met 29 = .ok (.getfield 46, 3) := by decide +kernel
theorem dX6_met_32 : decode cX6_met 32 = .ok (.aload_n 0, 1) := by decide +kernel
theorem dX6_met_33 : decode cX6_met 33 = .ok (.getfield 10, 3) := by decide +kernel
theorem dX6_met_36 : decode cX6_met 36 = .ok (.getfield 46, 3) := by decide +kernel
theorem dX6_met_39 : decode cX6_met 39 = .ok (.getfield 248, 3) := by decide +kernel
theorem dX6_met_42 : decode cX6_met 42 = .ok (.invokevirtual 244, 3) := by decide +kernel
theorem dX6_met_45 : decode cX6_met 45 = .ok (.i2d, 1) := by decide +kernel
theorem dX6_met_46 : decode cX6_met 46 = .ok (.iload_n 1, 1) := by decide +kernel
theorem dX6_met_47 : decode cX6_met 47 = .ok (.i2d, 1) := by decide +kernel
theorem dX6_met_48 : decode cX6_met 48 = .ok (.ddiv, 1) := by decide +kernel
theorem dX6_met_49 : decode cX6_met 49 = .ok (.goto 4, 3) := by decide +kernel
theorem dX6_met_52 : decode cX6_met 52 = .ok (.dconst 1, 1) := by decide +kernel
theorem dX6_met_53 : decode cX6_met 53 = .ok (.dreturn, 1) := by decide +kernel
theorem dX6_digest_0 : decode cX6_digest 0 = .ok (.ldc2_w 251, 3) := by decide +kernel
theorem dX6_digest_3 : decode cX6_digest 3 = .ok (.lstore_n 1, 1) := by decide +kernel
theorem dX6_digest_4 : decode cX6_digest 4 = .ok (.aload_n 0, 1) := by decide +kernel
theorem dX6_digest_5 : decode cX6_digest 5 = .ok (.lload_n 1, 1) := by decide +kernel
theorem dX6_digest_6 : decode cX6_digest 6 = .ok (.invokevirtual 253, 3) := by decide +kernel
theorem dX6_digest_9 : decode cX6_digest 9 = .ok (.lstore_n 1, 1) := by decide +kernel
theorem dX6_digest_10 : decode cX6_digest 10 = .ok (.aload_n 0, 1) := by decide +kernel
theorem dX6_digest_11 : decode cX6_digest 11 = .ok (.lload_n 1, 1) := by decide +kernel
theorem dX6_digest_12 : decode cX6_digest 12 = .ok (.invokevirtual 257, 3) := by decide +kernel
theorem dX6_digest_15 : decode cX6_digest 15 = .ok (.lstore_n 1, 1) := by decide +kernel
theorem dX6_digest_16 : decode cX6_digest 16 = .ok (.aload_n 0, 1) := by decide +kernel
theorem dX6_digest_17 : decode cX6_digest 17 = .ok (.lload_n 1, 1) := by decide +kernel
theorem dX6_digest_18 : decode cX6_digest 18 = .ok (.invokevirtual 260, 3) := by decide +kernel
theorem dX6_digest_21 : decode cX6_digest 21 = .ok (.lstore_n 1, 1) := by decide +kernel
theorem dX6_digest_22 : decode cX6_digest 22 = .ok (.aload_n 0, 1) := by decide +kernel
theorem dX6_digest_23 : decode cX6_digest 23 = .ok (.lload_n 1, 1) := by decide +kernel
theorem dX6_digest_24 : decode cX6_digest 24 = .ok (.invokevirtual 263, 3) := by decide +kernel
theorem dX6_digest_27 : decode cX6_digest 27 = .ok (.lstore_n 1, 1) := by decide +kernel
theorem dX6_digest_28 : decode cX6_digest 28 = .ok (.aload_n 0, 1) := by decide +kernel
theorem dX6_digest_29 : decode cX6_digest 29 = .ok (.lload_n 1, 1) := by decide +kernel
theorem dX6_digest_30 : decode cX6_digest 30 = .ok (.invokevirtual 266, 3) := by decide +kernel
theorem dX6_digest_33 : decode cX6_digest 33 = .ok (.lstore_n 1, 1) := by decide +kernel
theorem dX6_digest_34 : decode cX6_digest 34 = .ok (.lload_n 1, 1) := by decide +kernel
theorem dX6_digest_35 : decode cX6_digest 35 = .ok (.aload_n 0, 1) := by decide +kernel
theorem dX6_digest_36 : decode cX6_digest 36 = .ok (.invokevirtual 269, 3) := by decide +kernel
theorem dX6_digest_39 : decode cX6_digest 39 = .ok (.invokestatic 273, 3) := by decide +kernel
theorem dX6_digest_42 : decode cX6_digest 42 = .ok (.invokestatic 277, 3) := by decide +kernel
theorem dX6_digest_45 : decode cX6_digest 45 = .ok (.lstore_n 1, 1) := by decide +kernel
theorem dX6_digest_46 : decode cX6_digest 46 = .ok (.aload_n 0, 1) := by decide +kernel
theorem dX6_digest_47 : decode cX6_digest 47 = .ok (.lload_n 1, 1) := by decide +kernel
theorem dX6_digest_48 : decode cX6_digest 48 = .ok (.invokevirtual 281, 3) := by decide +kernel
theorem dX6_digest_51 : decode cX6_digest 51 = .ok (.lreturn, 1) := by decide +kernel
theorem dX6_within_0 : decode cX6_within 0 = .ok (.iload_n 0, 1) := by decide +kernel
theorem dX6_within_1 : decode cX6_within 1 = .ok (.iload_n 1, 1) := by decide +kernel
theorem dX6_within_2 : decode cX6_within 2 = .ok (.if_icmp .lt 12, 3) := by decide +kernel
theorem dX6_within_5 : decode cX6_within 5 = .ok (.iload_n 0, 1) := by decide +kernel
theorem dX6_within_6 : decode cX6_within 6 = .ok (.iload_n 2, 1) := by decide +kernel
theorem dX6_within_7 : decode cX6_within 7 = .ok (.if_icmp .gt 7, 3) := by decide +kernel
theorem dX6_within_10 : decode cX6_within 10 = .ok (.iconst 1, 1) := by decide +kernel
theorem dX6_within_11 : decode cX6_within 11 = .ok (.goto 4, 3) := by decide +kernel
theorem dX6_within_14 : decode cX6_within 14 = .ok (.iconst 0, 1) := by decide +kernel
theorem dX6_within_15 : decode cX6_within 15 = .ok (.ireturn, 1) := by decide +kernel
theorem dX6_isHouse_0 : decode cX6_isHouse 0 = .ok (.iload_n 1, 1) := by decide +kernel
theorem dX6_isHouse_1 : decode cX6_isHouse 1 = .ok (.iconst 0, 1) := by decide +kernel
theorem dX6_isHouse_2 : decode cX6_isHouse 2 = .ok (.aload_n 0, 1) := by decide +kernel
theorem dX6_isHouse_3 : decode cX6_isHouse 3 = .ok (.getfield 10, 3) := by decide +kernel
theorem dX6_isHouse_6 : decode cX6_isHouse 6 = .ok (.getfield 46, 3) := by decide +kernel
theorem dX6_isHouse_9 : decode cX6_isHouse 9 = .ok (.getfield 50, 3) := by decide +kernel
theorem dX6_isHouse_12 : decode cX6_isHouse 12 = .ok (.iconst 1, 1) := by decide +kernel
theorem dX6_isHouse_13 : decode cX6_isHouse 13 = .ok (.isub, 1) := by decide +kernel
theorem dX6_isHouse_14 : decode cX6_isHouse 14 = .ok (.invokestatic 41, 3) := by decide +kernel
theorem dX6_isHouse_17 : decode cX6_isHouse 17 = .ok (.ireturn, 1) := by decide +kernel
theorem dX6_isLoan_0 : decode cX6_isLoan 0 = .ok (.iload_n 1, 1) := by decide +kernel
theorem dX6_isLoan_1 : decode cX6_isLoan 1 = .ok (.iconst 0, 1) := by decide +kernel
theorem dX6_isLoan_2 : decode cX6_isLoan 2 = .ok (.aload_n 0, 1) := by decide +kernel
theorem dX6_isLoan_3 : decode cX6_isLoan 3 = .ok (.getfield 10, 3) := by decide +kernel
theorem dX6_isLoan_6 : decode cX6_isLoan 6 = .ok (.getfield 80, 3) := by decide +kernel
theorem dX6_isLoan_9 : decode cX6_isLoan 9 = .ok (.getfield 104, 3) := by decide +kernel
theorem dX6_isLoan_12 : decode cX6_isLoan 12 = .ok (.iconst 1, 1) := by decide +kernel
theorem dX6_isLoan_13 : decode cX6_isLoan 13 = .ok (.isub, 1) := by decide +kernel
theorem dX6_isLoan_14 : decode cX6_isLoan 14 = .ok (.invokestatic 41, 3) := by decide +kernel
theorem dX6_isLoan_17 : decode cX6_isLoan 17 = .ok (.ireturn, 1) := by decide +kernel
theorem dX6_isBattery_0 : decode cX6_isBattery 0 = .ok (.iload_n 0, 1) := by decide +kernel
theorem dX6_isBattery_1 : decode cX6_isBattery 1 = .ok (.iconst 0, 1) := by decide +kernel
theorem dX6_isBattery_2 : decode cX6_isBattery 2 = .ok (.iconst 1, 1) := by decide +kernel
theorem dX6_isBattery_3 : decode cX6_isBattery 3 = .ok (.invokestatic 41, 3) := by decide +kernel
theorem dX6_isBattery_6 : decode cX6_isBattery 6 = .ok (.ireturn, 1) := by decide +kernel
theorem dX6_isSetting_0 : decode cX6_isSetting 0 = .ok (.iload_n 0, 1) := by decide +kernel
theorem dX6_isSetting_1 : decode cX6_isSetting 1 = .ok (.iconst 0, 1) := by decide +kernel
theorem dX6_isSetting_2 : decode cX6_isSetting 2 = .ok (.iconst 3, 1) := by decide +kernel
theorem dX6_isSetting_3 : decode cX6_isSetting 3 = .ok (.invokestatic 41, 3) := by decide +kernel
theorem dX6_isSetting_6 : decode cX6_isSetting 6 = .ok (.ireturn, 1) := by decide +kernel
theorem dX6_isImage_0 : decode cX6_isImage 0 = .ok (.iload_n 0, 1) := by decide +kernel
theorem dX6_isImage_1 : decode cX6_isImage 1 = .ok (.iconst 0, 1) := by decide +kernel
theorem dX6_isImage_2 : decode cX6_isImage 2 = .ok (.iconst 1, 1) := by decide +kernel
theorem dX6_isImage_3 : decode cX6_isImage 3 = .ok (.invokestatic 41, 3) := by decide +kernel
theorem dX6_isImage_6 : decode cX6_isImage 6 = .ok (.ireturn, 1) := by decide +kernel
theorem dX6_seenAhead_0 : decode cX6_seenAhead 0 = .ok (.iload_n 1, 1) := by decide +kernel
theorem dX6_seenAhead_1 : decode cX6_seenAhead 1 = .ok (.tableswitch 98 0 3 #[31, 51, 67, 87], 31) := by decide +kernel
theorem dX6_seenAhead_32 : decode cX6_seenAhead 32 = .ok (.aload_n 0, 1) := by decide +kernel
theorem dX6_seenAhead_33 : decode cX6_seenAhead 33 = .ok (.getfield 16, 3) := by decide +kernel
theorem dX6_seenAhead_36 : decode cX6_seenAhead 36 = .ok (.getfield 144, 3) := by decide +kernel
theorem dX6_seenAhead_39 : decode cX6_seenAhead 39 = .ok (.iconst 1, 1) := by decide +kernel
theorem dX6_seenAhead_40 : decode cX6_seenAhead 40 = .ok (.iaload, 1) := by decide +kernel
theorem dX6_seenAhead_41 : decode cX6_seenAhead 41 = .ok (.aload_n 0, 1) := by decide +kernel
theorem dX6_seenAhead_42 : decode cX6_seenAhead 42 = .ok (.getfield 10, 3) := by decide +kernel
theorem dX6_seenAhead_45 : decode cX6_seenAhead 45 = .ok (.getfield 144, 3) := by decide +kernel
theorem dX6_seenAhead_48 : decode cX6_seenAhead 48 = .ok (.iconst 1, 1) := by decide +kernel
theorem dX6_seenAhead_49 : decode cX6_seenAhead 49 = .ok (.iaload, 1) := by decide +kernel
theorem dX6_seenAhead_50 : decode cX6_seenAhead 50 = .ok (.isub, 1) := by decide +kernel
theorem dX6_seenAhead_51 : decode cX6_seenAhead 51 = .ok (.ireturn, 1) := by decide +kernel
theorem dX6_seenAhead_52 : decode cX6_seenAhead 52 = .ok (.aload_n 0, 1) := by decide +kernel
theorem dX6_seenAhead_53 : decode cX6_seenAhead 53 = .ok (.getfield 16, 3) := by decide +kernel
theorem dX6_seenAhead_56 : decode cX6_seenAhead 56 = .ok (.invokevirtual 284, 3) := by decide +kernel
theorem dX6_seenAhead_59 : decode cX6_seenAhead 59 = .ok (.aload_n 0, 1) := by decide +kernel
theorem dX6_seenAhead_60 : decode cX6_seenAhead 60 = .ok (.getfield 10, 3) := by decide +kernel
theorem dX6_seenAhead_63 : decode cX6_seenAhead 63 = .ok (.invokevirtual 284, 3) := by decide +kernel
theorem dX6_seenAhead_66 : decode cX6_seenAhead 66 = .ok (.isub, 1) := by decide +kernel
theorem dX6_seenAhead_67 : decode cX6_seenAhead 67 = .ok (.ireturn, 1) := by decide +kernel
theorem dX6_seenAhead_68 : decode cX6_seenAhead 68 = .ok (.aload_n 0, 1) := by decide +kernel
theorem dX6_seenAhead_69 : decode cX6_seenAhead 69 = .ok (.getfield 16, 3) := by decide +kernel
theorem dX6_seenAhead_72 : decode cX6_seenAhead 72 = .ok (.getfield 144, 3) := by decide +kernel
theorem dX6_seenAhead_75 : decode cX6_seenAhead 75 = .ok (.iconst 3, 1) := by decide +kernel
theorem dX6_seenAhead_76 : decode cX6_seenAhead 76 = .ok (.iaload, 1) := by decide +kernel
theorem dX6_seenAhead_77 : decode cX6_seenAhead 77 = .ok (.aload_n 0, 1) := by decide +kernel
theorem dX6_seenAhead_78 : decode cX6_seenAhead 78 = .ok (.getfield 10, 3) := by decide +kernel
theorem dX6_seenAhead_81 : decode cX6_seenAhead 81 = .ok (.getfield 144, 3) := by decide +kernel
theorem dX6_seenAhead_84 : decode cX6_seenAhead 84 = .ok (.iconst 3, 1) := by decide +kernel
theorem dX6_seenAhead_85 : decode cX6_seenAhead 85 = .ok (.iaload, 1) := by decide +kernel
theorem dX6_seenAhead_86 : decode cX6_seenAhead 86 = .ok (.isub, 1) := by decide +kernel
theorem dX6_seenAhead_87 : decode cX6_seenAhead 87 = .ok (.ireturn, 1) := by decide +kernel
theorem dX6_seenAhead_88 : decode cX6_seenAhead 88 = .ok (.aload_n 0, 1) := by decide +kernel
theorem dX6_seenAhead_89 : decode cX6_seenAhead 89 = .ok (.getfield 16, 3) := by decide +kernel
theorem dX6_seenAhead_92 : decode cX6_seenAhead 92 = .ok (.getfield 136, 3) := by decide +kernel
theorem dX6_seenAhead_95 : decode cX6_seenAhead 95 = .ok (.invokevirtual 214, 3) := by decide +kernel
theorem dX6_seenAhead_98 : decode cX6_seenAhead 98 = .ok (.ireturn, 1) := by decide +kernel
theorem dX6_seenAhead_99 : decode cX6_seenAhead 99 = .ok (.aload_n 0, 1) := by decide +kernel
theorem dX6_seenAhead_100 : decode cX6_seenAhead 100 = .ok (.getfield 16, 3) := by decide +kernel
theorem dX6_seenAhead_103 : decode cX6_seenAhead 103 = .ok (.getfield 46, 3) := by decide +kernel
theorem dX6_seenAhead_106 : decode cX6_seenAhead 106 = .ok (.invokevirtual 287, 3) := by decide +kernel
theorem dX6_seenAhead_109 : decode cX6_seenAhead 109 = .ok (.ireturn, 1) := by decide +kernel
theorem dX6_wouldServe_0 : decode cX6_wouldServe 0 = .ok (.aload_n 0, 1) := by decide +kernel
theorem dX6_wouldServe_1 : decode cX6_wouldServe 1 = .ok (.getfield 16, 3) := by decide +kernel
theorem dX6_wouldServe_4 : decode cX6_wouldServe 4 = .ok (.aload_n 0, 1) := by decide +kernel
theorem dX6_wouldServe_5 : decode cX6_wouldServe 5 = .ok (.getfield 10, 3) := by decide +kernel
theorem dX6_wouldServe_8 : decode cX6_wouldServe 8 = .ok (.invokevirtual 182, 3) := by decide +kernel
theorem dX6_wouldServe_11 : decode cX6_wouldServe 11 = .ok (.aload_n 0, 1) := by decide +kernel
theorem dX6_wouldServe_12 : decode cX6_wouldServe 12 = .ok (.getfield 16, 3) := by decide +kernel
theorem dX6_wouldServe_15 : decode cX6_wouldServe 15 = .ok (.iload_n 1, 1) := by decide +kernel
theorem dX6_wouldServe_16 : decode cX6_wouldServe 16 = .ok (.iload_n 2, 1) := by decide +kernel
theorem dX6_wouldServe_17 : decode cX6_wouldServe 17 = .ok (.invokevirtual 97, 3) := by decide +kernel
theorem dX6_wouldServe_20 : decode cX6_wouldServe 20 = .ok (.aload_n 0, 1) := by decide +kernel
theorem dX6_wouldServe_21 : decode cX6_wouldServe 21 = .ok (.getfield 16, 3) := by decide +kernel
theorem dX6_wouldServe_24 : decode cX6_wouldServe 24 = .ok (.iload_n 1, 1) := by decide +kernel
theorem dX6_wouldServe_25 : decode cX6_wouldServe 25 = .ok (.iload_n 3, 1) := by decide +kernel
theorem dX6_wouldServe_26 : decode cX6_wouldServe 26 = .ok (.invokevirtual 229, 3) := by decide +kernel
theorem dX6_wouldServe_29 : decode cX6_wouldServe 29 = .ok (.iload_n 3, 1) := by decide +kernel
theorem dX6_wouldServe_30 : decode cX6_wouldServe 30 = .ok (.if_icmp .lt 7, 3) := by decide +kernel
theorem dX6_wouldServe_33 : decode cX6_wouldServe 33 = .ok (.iconst 1, 1) := by decide +kernel
theorem dX6_wouldServe_34 : decode cX6_wouldServe 34 = .ok (.goto 4, 3) := by decide +kernel
theorem dX6_wouldServe_37 : decode cX6_wouldServe 37 = .ok (.iconst 0, 1) := by decide +kernel
theorem dX6_wouldServe_38 : decode cX6_wouldServe 38 = .ok (.ireturn, 1) := by decide +kernel
theorem dX6_mix_0 : decode cX6_mix 0 = .ok (.ldc2_w 290, 3) := by decide +kernel
theorem dX6_mix_3 : decode cX6_mix 3 = .ok (.lload_n 0, 1) := by decide +kernel
theorem dX6_mix_4 : decode cX6_mix 4 = .ok (.lmul, 1) := by decide +kernel
theorem dX6_mix_5 : decode cX6_mix 5 = .ok (.lload_n 2, 1) := by decide +kernel
theorem dX6_mix_6 : decode cX6_mix 6 = .ok (.ladd, 1) := by decide +kernel
theorem dX6_mix_7 : decode cX6_mix 7 = .ok (.lreturn, 1) := by decide +kernel
theorem dX6_mixTotals_0 : decode cX6_mixTotals 0 = .ok (.lload_n 1, 1) := by decide +kernel
theorem dX6_mixTotals_1 : decode cX6_mixTotals 1 = .ok (.lstore_n 3, 1) := by decide +kernel
theorem dX6_mixTotals_2 : decode cX6_mixTotals 2 = .ok (.iconst 0, 1) := by decide +kernel
theorem dX6_mixTotals_3 : decode cX6_mixTotals 3 = .ok (.istore 5, 2) := by decide +kernel
theorem dX6_mixTotals_5 : decode cX6_mixTotals 5 = .ok (.iload 5, 2) := by decide +kernel
theorem dX6_mixTotals_7 : decode cX6_mixTotals 7 = .ok (.bipush 7, 2) := by decide +kernel
theorem dX6_mixTotals_9 : decode cX6_mixTotals 9 = .ok (.if_icmp .gt 21, 3) := by decide +kernel
theorem dX6_mixTotals_12 : decode cX6_mixTotals 12 = .ok (.lload_n 3, 1) := by decide +kernel
theorem dX6_mixTotals_13 : decode cX6_mixTotals 13 = .ok (.aload_n 0, 1) := by decide +kernel
theorem dX6_mixTotals_14 : decode cX6_mixTotals 14 = .ok (.iload 5, 2) := by decide +kernel
theorem dX6_mixTotals_16 : decode cX6_mixTotals 16 = .ok (.invokevirtual 292, 3) := by decide +kernel
theorem dX6_mixTotals_19 : decode cX6_mixTotals 19 = .ok (.i2l, 1) := by decide +kernel
theorem dX6_mixTotals_20 : decode cX6_mixTotals 20 = .ok (.invokestatic 277, 3) := by decide +kernel
theorem dX6_mixTotals_23 : decode cX6_mixTotals 23 = .ok (.lstore_n 3, 1) := by decide +kernel
theorem dX6_mixTotals_24 : decode cX6_mixTotals 24 = .ok (.iinc 5 1, 3) := by decide +kernel
theorem dX6_mixTotals_27 : decode cX6_mixTotals 27 = .ok (.goto (-22), 3) := by decide +kernel
theorem dX6_mixTotals_30 : decode cX6_mixTotals 30 = .ok (.iconst 0, 1) := by decide +kernel
theorem dX6_mixTotals_31 : decode cX6_mixTotals 31 = .ok (.istore 5, 2) := by decide +kernel
theorem dX6_mixTotals_33 : decode cX6_mixTotals 33 = .ok (.iload 5, 2) := by decide +kernel
theorem dX6_mixTotals_35 : decode cX6_mixTotals 35 = .ok (.iconst 4, 1) := by decide +kernel
theorem dX6_mixTotals_36 : decode cX6_mixTotals 36 = .ok (.if_icmp .ge 21, 3) := by decide +kernel
theorem dX6_mixTotals_39 : decode cX6_mixTotals 39 = .ok (.lload_n 3, 1) := by decide +kernel
theorem dX6_mixTotals_40 : decode cX6_mixTotals 40 = .ok (.aload_n 0, 1) := by decide +kernel
theorem dX6_mixTotals_41 : decode cX6_mixTotals 41 = .ok (.iload 5, 2) := by decide +kernel
theorem dX6_mixTotals_43 : decode cX6_mixTotals 43 = .ok (.invokevirtual 295, 3) := by decide +kernel
theorem dX6_mixTotals_46 : decode cX6_mixTotals 46 = .ok (.i2l, 1) := by decide +kernel
theorem dX6_mixTotals_47 : decode cX6_mixTotals 47 = .ok (.invokestatic 277, 3) := by decide +kernel
theorem dX6_mixTotals_50 : decode cX6_mixTotals 50 = .ok (.lstore_n 3, 1) := by decide +kernel
theorem dX6_mixTotals_51 : decode cX6_mixTotals 51 = .ok (.iinc 5 1, 3) := by decide +kernel
theorem dX6_mixTotals_54 : decode cX6_mixTotals 54 = .ok (.goto (-21), 3) := by decide +kernel
theorem dX6_mixTotals_57 : decode cX6_mixTotals 57 = .ok (.iconst 0, 1) := by decide +kernel
theorem dX6_mixTotals_58 : decode cX6_mixTotals 58 = .ok (.istore 5, 2) := by decide +kernel
theorem dX6_mixTotals_60 : decode cX6_mixTotals 60 = .ok (.iload 5, 2) := by decide +kernel
theorem dX6_mixTotals_62 : decode cX6_mixTotals 62 = .ok (.bipush 8, 2) := by decide +kernel
theorem dX6_mixTotals_64 : decode cX6_mixTotals 64 = .ok (.if_icmp .ge 21, 3) := by decide +kernel
theorem dX6_mixTotals_67 : decode cX6_mixTotals 67 = .ok (.lload_n 3, 1) := by decide +kernel
theorem dX6_mixTotals_68 : decode cX6_mixTotals 68 = .ok (.aload_n 0, 1) := by decide +kernel
theorem dX6_mixTotals_69 : decode cX6_mixTotals 69 = .ok (.iload 5, 2) := by decide +kernel
theorem dX6_mixTotals_71 : decode cX6_mixTotals 71 = .ok (.invokevirtual 298, 3) := by decide +kernel
theorem dX6_mixTotals_74 : decode cX6_mixTotals 74 = .ok (.i2l, 1) := by decide +kernel
theorem dX6_mixTotals_75 : decode cX6_mixTotals 75 = .ok (.invokestatic 277, 3) := by decide +kernel
theorem dX6_mixTotals_78 : decode cX6_mixTotals 78 = .ok (.lstore_n 3, 1) := by decide +kernel
theorem dX6_mixTotals_79 : decode cX6_mixTotals 79 = .ok (.iinc 5 1, 3) := by decide +kernel
theorem dX6_mixTotals_82 : decode cX6_mixTotals 82 = .ok (.goto (-22), 3) := by decide +kernel
theorem dX6_mixTotals_85 : decode cX6_mixTotals 85 = .ok (.lload_n 3, 1) := by decide +kernel
theorem dX6_mixTotals_86 : decode cX6_mixTotals 86 = .ok (.lreturn, 1) := by decide +kernel
theorem dX6_mixHouses_0 : decode cX6_mixHouses 0 = .ok (.lload_n 1, 1) := by decide +kernel
theorem dX6_mixHouses_1 : decode cX6_mixHouses 1 = .ok (.lstore_n 3, 1) := by decide +kernel
theorem dX6_mixHouses_2 : decode cX6_mixHouses 2 = .ok (.iconst 0, 1) := by decide +kernel
theorem dX6_mixHouses_3 : decode cX6_mixHouses 3 = .ok (.istore 5, 2) := by decide +kernel
theorem dX6_mixHouses_5 : decode cX6_mixHouses 5 = .ok (.iload 5, 2) := by decide +kernel
theorem dX6_mixHouses_7 : decode cX6_mixHouses 7 = .ok (.aload_n 0, 1) := by decide +kernel
theorem dX6_mixHouses_8 : decode cX6_mixHouses 8 = .ok (.getfield 10, 3) := by decide +kernel
theorem dX6_mixHouses_11 : decode cX6_mixHouses 11 = .ok (.getfield 46, 3) := by decide +kernel
theorem dX6_mixHouses_14 : decode cX6_mixHouses 14 = .ok (.getfield 50, 3) := by decide +kernel
theorem dX6_mixHouses_17 : decode cX6_mixHouses 17 = .ok (.if_icmp .ge 39, 3) := by decide +kernel
theorem dX6_mixHouses_20 : decode cX6_mixHouses 20 = .ok (.iconst 0, 1) := by decide +kernel
theorem dX6_mixHouses_21 : decode cX6_mixHouses 21 = .ok (.istore 6, 2) := by decide +kernel
theorem dX6_mixHouses_23 : decode cX6_mixHouses 23 = .ok (.iload 6, 2) := by decide +kernel
theorem dX6_mixHouses_25 : decode cX6_mixHouses 25 = .ok (.bipush 10, 2) := by decide +kernel
theorem dX6_mixHouses_27 : decode cX6_mixHouses 27 = .ok (.if_icmp .gt 23, 3) := by decide +kernel
theorem dX6_mixHouses_30 : decode cX6_mixHouses 30 = .ok (.lload_n 3, 1) := by decide +kernel
theorem dX6_mixHouses_31 : decode cX6_mixHouses 31 = .ok (.aload_n 0, 1) := by decide +kernel
theorem dX6_mixHouses_32 : decode cX6_mixHouses 32 = .ok (.iload 5, 2) := by decide +kernel
theorem dX6_mixHouses_34 : decode cX6_mixHouses 34 = .ok (.iload 6, 2) := by decide +kernel
theorem dX6_mixHouses_36 : decode cX6_mixHouses 36 = .ok (.invokevirtual 301, 3) := by decide +kernel
theorem dX6_mixHouses_39 : decode cX6_mixHouses 39 = .ok (.i2l, 1) := by decide +kernel
theorem dX6_mixHouses_40 : decode cX6_mixHouses 40 = .ok (.invokestatic 277, 3) := by decide +kernel
theorem dX6_mixHouses_43 : decode cX6_mixHouses 43 = .ok (.lstore_n 3, 1) := by decide +kernel
theorem dX6_mixHouses_44 : decode cX6_mixHouses 44 = .ok (.iinc 6 1, 3) := by decide +kernel
theorem dX6_mixHouses_47 : decode cX6_mixHouses 47 = .ok (.goto (-24), 3) := by decide +kernel
theorem dX6_mixHouses_50 : decode cX6_mixHouses 50 = .ok (.iinc 5 1, 3) := by decide +kernel
theorem dX6_mixHouses_53 : decode cX6_mixHouses 53 = .ok (.goto (-48), 3) := by decide +kernel
theorem dX6_mixHouses_56 : decode cX6_mixHouses 56 = .ok (.lload_n 3, 1) := by decide +kernel
theorem dX6_mixHouses_57 : decode cX6_mixHouses 57 = .ok (.lreturn, 1) := by decide +kernel
theorem dX6_mixLoans_0 : decode cX6_mixLoans 0 = .ok (.lload_n 1, 1) := by decide +kernel
theorem dX6_mixLoans_1 : decode cX6_mixLoans 1 = .ok (.lstore_n 3, 1) := by decide +kernel
theorem dX6_mixLoans_2 : decode cX6_mixLoans 2 = .ok (.iconst 0, 1) := by decide +kernel
theorem dX6_mixLoans_3 : decode cX6_mixLoans 3 = .ok (.istore 5, 2) := by decide +kernel
theorem dX6_mixLoans_5 : decode cX6_mixLoans 5 = .ok (.iload 5, 2) := by decide +kernel
theorem dX6_mixLoans_7 : decode cX6_mixLoans 7 = .ok (.aload_n 0, 1) := by decide +kernel
theorem dX6_mixLoans_8 : decode cX6_mixLoans 8 = .ok (.getfield 10, 3) := by decide +kernel
theorem dX6_mixLoans_11 : decode cX6_mixLoans 11 = .ok (.getfield 80, 3) := by decide +kernel
theorem dX6_mixLoans_14 : decode cX6_mixLoans 14 = .ok (.getfield 104, 3) := by decide +kernel
theorem dX6_mixLoans_17 : decode cX6_mixLoans 17 = .ok (.if_icmp .ge 38, 3) := by decide +kernel
theorem dX6_mixLoans_20 : decode cX6_mixLoans 20 = .ok (.iconst 0, 1) := by decide +kernel
theorem dX6_mixLoans_21 : decode cX6_mixLoans 21 = .ok (.istore 6, 2) := by decide +kernel
theorem dX6_mixLoans_23 : decode cX6_mixLoans 23 = .ok (.iload 6, 2) := by decide +kernel
theorem dX6_mixLoans_25 : decode cX6_mixLoans 25 = .ok (.iconst 2, 1) := by decide +kernel
theorem dX6_mixLoans_26 : decode cX6_mixLoans 26 = .ok (.if_icmp .gt 23, 3) := by decide +kernel
theorem dX6_mixLoans_29 : decode cX6_mixLoans 29 = .ok (.lload_n 3, 1) := by decide +kernel
theorem dX6_mixLoans_30 : decode cX6_mixLoans 30 = .ok (.aload_n 0, 1) := by decide +kernel
theorem dX6_mixLoans_31 : decode cX6_mixLoans 31 = .ok (.iload 5, 2) := by decide +kernel
theorem dX6_mixLoans_33 : decode cX6_mixLoans 33 = .ok (.iload 6, 2) := by decide +kernel
theorem dX6_mixLoans_35 : decode cX6_mixLoans 35 = .ok (.invokevirtual 304, 3) := by decide +kernel
theorem dX6_mixLoans_38 : decode cX6_mixLoans 38 = .ok (.i2l, 1) := by decide +kernel
theorem dX6_mixLoans_39 : decode cX6_mixLoans 39 = .ok (.invokestatic 277, 3) := by decide +kernel
theorem dX6_mixLoans_42 : decode cX6_mixLoans 42 = .ok (.lstore_n 3, 1) := by decide +kernel
theorem dX6_mixLoans_43 : decode cX6_mixLoans 43 = .ok (.iinc 6 1, 3) := by decide +kernel
theorem dX6_mixLoans_46 : decode cX6_mixLoans 46 = .ok (.goto (-23), 3) := by decide +kernel
theorem dX6_mixLoans_49 : decode cX6_mixLoans 49 = .ok (.iinc 5 1, 3) := by decide +kernel
theorem dX6_mixLoans_52 : decode cX6_mixLoans 52 = .ok (.goto (-47), 3) := by decide +kernel
theorem dX6_mixLoans_55 : decode cX6_mixLoans 55 = .ok (.lload_n 3, 1) := by decide +kernel
theorem dX6_mixLoans_56 : decode cX6_mixLoans 56 = .ok (.lreturn, 1) := by decide +kernel
theorem dX6_mixPlant_0 : decode cX6_mixPlant 0 = .ok (.lload_n 1, 1) := by decide +kernel
theorem dX6_mixPlant_1 : decode cX6_mixPlant 1 = .ok (.lstore_n 3, 1) := by decide +kernel
theorem dX6_mixPlant_2 : decode cX6_mixPlant 2 = .ok (.iconst 0, 1) := by decide +kernel
theorem dX6_mixPlant_3 : decode cX6_mixPlant 3 = .ok (.istore 5, 2) := by decide +kernel
theorem dX6_mixPlant_5 : decode cX6_mixPlant 5 = .ok (.iload 5, 2) := by decide +kernel
theorem dX6_mixPlant_7 : decode cX6_mixPlant 7 = .ok (.iconst 2, 1) := by decide +kernel
theorem dX6_mixPlant_8 : decode cX6_mixPlant 8 = .ok (.if_icmp .ge 38, 3) := by decide +kernel
theorem dX6_mixPlant_11 : decode cX6_mixPlant 11 = .ok (.iconst 0, 1) := by decide +kernel
theorem dX6_mixPlant_12 : decode cX6_mixPlant 12 = .ok (.istore 6, 2) := by decide +kernel
theorem dX6_mixPlant_14 : decode cX6_mixPlant 14 = .ok (.iload 6, 2) := by decide +kernel
theorem dX6_mixPlant_16 : decode cX6_mixPlant 16 = .ok (.iconst 4, 1) := by decide +kernel
theorem dX6_mixPlant_17 : decode cX6_mixPlant 17 = .ok (.if_icmp .gt 23, 3) := by decide +kernel
theorem dX6_mixPlant_20 : decode cX6_mixPlant 20 = .ok (.lload_n 3, 1) := by decide +kernel
theorem dX6_mixPlant_21 : decode cX6_mixPlant 21 = .ok (.aload_n 0, 1) := by decide +kernel
theorem dX6_mixPlant_22 : decode cX6_mixPlant 22 = .ok (.iload 5, 2) := by decide +kernel
theorem dX6_mixPlant_24 : decode cX6_mixPlant 24 = .ok (.iload 6, 2) := by decide +kernel
theorem dX6_mixPlant_26 : decode cX6_mixPlant 26 = .ok (.invokevirtual 307, 3) := by decide +kernel
theorem dX6_mixPlant_29 : decode cX6_mixPlant 29 = .ok (.i2l, 1) := by decide +kernel
theorem dX6_mixPlant_30 : decode cX6_mixPlant 30 = .ok (.invokestatic 277, 3) := by decide +kernel
theorem dX6_mixPlant_33 : decode cX6_mixPlant 33 = .ok (.lstore_n 3, 1) := by decide +kernel
theorem dX6_mixPlant_34 : decode cX6_mixPlant 34 = .ok (.iinc 6 1, 3) := by decide +kernel
theorem dX6_mixPlant_37 : decode cX6_mixPlant 37 = .ok (.goto (-23), 3) := by decide +kernel
theorem dX6_mixPlant_40 : decode cX6_mixPlant 40 = .ok (.iinc 5 1, 3) := by decide +kernel
theorem dX6_mixPlant_43 : decode cX6_mixPlant 43 = .ok (.goto (-38), 3) := by decide +kernel
theorem dX6_mixPlant_46 : decode cX6_mixPlant 46 = .ok (.iconst 0, 1) := by decide +kernel
theorem dX6_mixPlant_47 : decode cX6_mixPlant 47 = .ok (.istore 5, 2) := by decide +kernel
theorem dX6_mixPlant_49 : decode cX6_mixPlant 49 = .ok (.iload 5, 2) := by decide +kernel
theorem dX6_mixPlant_51 : decode cX6_mixPlant 51 = .ok (.iconst 3, 1) := by decide +kernel
theorem dX6_mixPlant_52 : decode cX6_mixPlant 52 = .ok (.if_icmp .ge 38, 3) := by decide +kernel
theorem dX6_mixPlant_55 : decode cX6_mixPlant 55 = .ok (.iconst 0, 1) := by decide +kernel
theorem dX6_mixPlant_56 : decode cX6_mixPlant 56 = .ok (.istore 6, 2) := by decide +kernel
theorem dX6_mixPlant_58 : decode cX6_mixPlant 58 = .ok (.iload 6, 2) := by decide +kernel
theorem dX6_mixPlant_60 : decode cX6_mixPlant 60 = .ok (.iconst 4, 1) := by decide +kernel
theorem dX6_mixPlant_61 : decode cX6_mixPlant 61 = .ok (.if_icmp .gt 23, 3) := by decide +kernel
theorem dX6_mixPlant_64 : decode cX6_mixPlant 64 = .ok (.lload_n 3, 1) := by decide +kernel
theorem dX6_mixPlant_65 : decode cX6_mixPlant 65 = .ok (.aload_n 0, 1) := by decide +kernel
theorem dX6_mixPlant_66 : decode cX6_mixPlant 66 = .ok (.iload 5, 2) := by decide +kernel
theorem dX6_mixPlant_68 : decode cX6_mixPlant 68 = .ok (.iload 6, 2) := by decide +kernel
theorem dX6_mixPlant_70 : decode cX6_mixPlant 70 = .ok (.invokevirtual 310, 3) := by decide +kernel
theorem dX6_mixPlant_73 : decode cX6_mixPlant 73 = .ok (.i2l, 1) := by decide +kernel
theorem dX6_mixPlant_74 : decode cX6_mixPlant 74 = .ok (.invokestatic 277, 3) := by decide +kernel
theorem dX6_mixPlant_77 : decode cX6_mixPlant 77 = .ok (.lstore_n 3, 1) := by decide +kernel
theorem dX6_mixPlant_78 : decode cX6_mixPlant 78 = .ok (.iinc 6 1, 3) := by decide +kernel
theorem dX6_mixPlant_81 : decode cX6_mixPlant 81 = .ok (.goto (-23), 3) := by decide +kernel
theorem dX6_mixPlant_84 : decode cX6_mixPlant 84 = .ok (.iinc 5 1, 3) := by decide +kernel
theorem dX6_mixPlant_87 : decode cX6_mixPlant 87 = .ok (.goto (-38), 3) := by decide +kernel
theorem dX6_mixPlant_90 : decode cX6_mixPlant 90 = .ok (.iconst 0, 1) := by decide +kernel
theorem dX6_mixPlant_91 : decode cX6_mixPlant 91 = .ok (.istore 5, 2) := by decide +kernel
theorem dX6_mixPlant_93 : decode cX6_mixPlant 93 = .ok (.iload 5, 2) := by decide +kernel
theorem dX6_mixPlant_95 : decode cX6_mixPlant 95 = .ok (.aload_n 0, 1) := by decide +kernel
theorem dX6_mixPlant_96 : decode cX6_mixPlant 96 = .ok (.getfield 10, 3) := by decide +kernel
theorem dX6_mixPlant_99 : decode cX6_mixPlant 99 = .ok (.getfield 172, 3) := by decide +kernel
theorem dX6_mixPlant_102 : decode cX6_mixPlant 102 = .ok (.if_icmp .ge 21, 3) := by decide +kernel
theorem dX6_mixPlant_105 : decode cX6_mixPlant 105 = .ok (.lload_n 3, 1) := by decide +kernel
theorem dX6_mixPlant_106 : decode cX6_mixPlant 106 = .ok (.aload_n 0, 1) := by decide +kernel
theorem dX6_mixPlant_107 : decode cX6_mixPlant 107 = .ok (.iload 5, 2) := by decide +kernel
theorem dX6_mixPlant_109 : decode cX6_mixPlant 109 = .ok (.invokevirtual 313, 3) := by decide +kernel
theorem dX6_mixPlant_112 : decode cX6_mixPlant 112 = .ok (.i2l, 1) := by decide +kernel
theorem dX6_mixPlant_113 : decode cX6_mixPlant 113 = .ok (.invokestatic 277, 3) := by decide +kernel
theorem dX6_mixPlant_116 : decode cX6_mixPlant 116 = .ok (.lstore_n 3, 1) := by decide +kernel
theorem dX6_mixPlant_117 : decode cX6_mixPlant 117 = .ok (.iinc 5 1, 3) := by decide +kernel
theorem dX6_mixPlant_120 : decode cX6_mixPlant 120 = .ok (.goto (-27), 3) := by decide +kernel
theorem dX6_mixPlant_123 : decode cX6_mixPlant 123 = .ok (.lload_n 3, 1) := by decide +kernel
theorem dX6_mixPlant_124 : decode cX6_mixPlant 124 = .ok (.lreturn, 1) := by decide +kernel
theorem dX6_mixAhead_0 : decode cX6_mixAhead 0 = .ok (.lload_n 1, 1) := by decide +kernel
theorem dX6_mixAhead_1 : decode cX6_mixAhead 1 = .ok (.lstore_n 3, 1) := by decide +kernel
theorem dX6_mixAhead_2 : decode cX6_mixAhead 2 = .ok (.aload_n 0, 1) := by decide +kernel
theorem dX6_mixAhead_3 : decode cX6_mixAhead 3 = .ok (.getfield 16, 3) := by decide +kernel
theorem dX6_mixAhead_6 : decode cX6_mixAhead 6 = .ok (.aload_n 0, 1) := by decide +kernel
theorem dX6_mixAhead_7 : decode cX6_mixAhead 7 = .ok (.getfield 10, 3) := by decide +kernel
theorem dX6_mixAhead_10 : decode cX6_mixAhead 10 = .ok (.invokevirtual 182, 3) := by decide +kernel
theorem dX6_mixAhead_13 : decode cX6_mixAhead 13 = .ok (.aload_n 0, 1) := by decide +kernel
theorem dX6_mixAhead_14 : decode cX6_mixAhead 14 = .ok (.getfield 16, 3) := by decide +kernel
theorem dX6_mixAhead_17 : decode cX6_mixAhead 17 = .ok (.bipush 24, 2) := by decide +kernel
theorem dX6_mixAhead_19 : decode cX6_mixAhead 19 = .ok (.invokevirtual 151, 3) := by decide +kernel
theorem dX6_mixAhead_22 : decode cX6_mixAhead 22 = .ok (.iconst 0, 1) := by decide +kernel
theorem dX6_mixAhead_23 : decode cX6_mixAhead 23 = .ok (.istore 5, 2) := by decide +kernel
theorem dX6_mixAhead_25 : decode cX6_mixAhead 25 = .ok (.iload 5, 2) := by decide +kernel
theorem dX6_mixAhead_27 : decode cX6_mixAhead 27 = .ok (.iconst 4, 1) := by decide +kernel
theorem dX6_mixAhead_28 : decode cX6_mixAhead 28 = .ok (.if_icmp .gt 21, 3) := by decide +kernel
theorem dX6_mixAhead_31 : decode cX6_mixAhead 31 = .ok (.lload_n 3, 1) := by decide +kernel
theorem dX6_mixAhead_32 : decode cX6_mixAhead 32 = .ok (.aload_n 0, 1) := by decide +kernel
theorem dX6_mixAhead_33 : decode cX6_mixAhead 33 = .ok (.iload 5, 2) := by decide +kernel
theorem dX6_mixAhead_35 : decode cX6_mixAhead 35 = .ok (.invokevirtual 226, 3) := by decide +kernel
theorem dX6_mixAhead_38 : decode cX6_mixAhead 38 = .ok (.i2l, 1) := by decide +kernel
theorem dX6_mixAhead_39 : decode cX6_mixAhead 39 = .ok (.invokestatic 277, 3) := by decide +kernel
theorem dX6_mixAhead_42 : decode cX6_mixAhead 42 = .ok (.lstore_n 3, 1) := by decide +kernel
theorem dX6_mixAhead_43 : decode cX6_mixAhead 43 = .ok (.iinc 5 1, 3) := by decide +kernel
theorem dX6_mixAhead_46 : decode cX6_mixAhead 46 = .ok (.goto (-21), 3) := by decide +kernel
theorem dX6_mixAhead_49 : decode cX6_mixAhead 49 = .ok (.lload_n 3, 1) := by decide +kernel
theorem dX6_mixAhead_50 : decode cX6_mixAhead 50 = .ok (.lreturn, 1) := by decide +kernel
theorem dX6_mixText_0 : decode cX6_mixText 0 = .ok (.lload_n 1, 1) := by decide +kernel
theorem dX6_mixText_1 : decode cX6_mixText 1 = .ok (.aload_n 0, 1) := by decide +kernel
theorem dX6_mixText_2 : decode cX6_mixText 2 = .ok (.getfield 37, 3) := by decide +kernel
theorem dX6_mixText_5 : decode cX6_mixText 5 = .ok (.getfield 154, 3) := by decide +kernel
theorem dX6_mixText_8 : decode cX6_mixText 8 = .ok (.i2l, 1) := by decide +kernel
theorem dX6_mixText_9 : decode cX6_mixText 9 = .ok (.invokestatic 277, 3) := by decide +kernel
theorem dX6_mixText_12 : decode cX6_mixText 12 = .ok (.lstore_n 3, 1) := by decide +kernel
theorem dX6_mixText_13 : decode cX6_mixText 13 = .ok (.iconst 0, 1) := by decide +kernel
theorem dX6_mixText_14 : decode cX6_mixText 14 = .ok (.istore 5, 2) := by decide +kernel
theorem dX6_mixText_16 : decode cX6_mixText 16 = .ok (.iload 5, 2) := by decide +kernel
theorem dX6_mixText_18 : decode cX6_mixText 18 = .ok (.aload_n 0, 1) := by decide +kernel
theorem dX6_mixText_19 : decode cX6_mixText 19 = .ok (.getfield 37, 3) := by decide +kernel
theorem dX6_mixText_22 : decode cX6_mixText 22 = .ok (.getfield 154, 3) := by decide +kernel
theorem dX6_mixText_25 : decode cX6_mixText 25 = .ok (.if_icmp .ge 25, 3) := by decide +kernel
theorem dX6_mixText_28 : decode cX6_mixText 28 = .ok (.lload_n 3, 1) := by decide +kernel
theorem dX6_mixText_29 : decode cX6_mixText 29 = .ok (.aload_n 0, 1) := by decide +kernel
theorem dX6_mixText_30 : decode cX6_mixText 30 = .ok (.getfield 37, 3) := by decide +kernel
theorem dX6_mixText_33 : decode cX6_mixText 33 = .ok (.getfield 316, 3) := by decide +kernel
theorem dX6_mixText_36 : decode cX6_mixText 36 = .ok (.iload 5, 2) := by decide +kernel
theorem dX6_mixText_38 : decode cX6_mixText 38 = .ok (.iaload, 1) := by decide +kernel
theorem dX6_mixText_39 : decode cX6_mixText 39 = .ok (.i2l, 1) := by decide +kernel
theorem dX6_mixText_40 : decode cX6_mixText 40 = .ok (.invokestatic 277, 3) := by decide +kernel
theorem dX6_mixText_43 : decode cX6_mixText 43 = .ok (.lstore_n 3, 1) := by decide +kernel
theorem dX6_mixText_44 : decode cX6_mixText 44 = .ok (.iinc 5 1, 3) := by decide +kernel
theorem dX6_mixText_47 : decode cX6_mixText 47 = .ok (.goto (-31), 3) := by decide +kernel
theorem dX6_mixText_50 : decode cX6_mixText 50 = .ok (.lload_n 3, 1) := by decide +kernel
theorem dX6_mixText_51 : decode cX6_mixText 51 = .ok (.lreturn, 1) := by decide +kernel
theorem dX6_bitsOf_0 : decode cX6_bitsOf 0 = .ok (.dload_n 0, 1) := by decide +kernel
theorem dX6_bitsOf_1 : decode cX6_bitsOf 1 = .ok (.dconst 0, 1) := by decide +kernel
theorem dX6_bitsOf_2 : decode cX6_bitsOf 2 = .ok (.dcmp .g, 1) := by decide +kernel
theorem dX6_bitsOf_3 : decode cX6_bitsOf 3 = .ok (.ifCond .gt 5, 3) := by decide +kernel
theorem dX6_bitsOf_6 : decode cX6_bitsOf 6 = .ok (.lconst 0, 1) := by decide +kernel
theorem dX6_bitsOf_7 : decode cX6_bitsOf 7 = .ok (.lreturn, 1) := by decide +kernel
theorem dX6_bitsOf_8 : decode cX6_bitsOf 8 = .ok (.dload_n 0, 1) := by decide +kernel
theorem dX6_bitsOf_9 : decode cX6_bitsOf 9 = .ok (.dstore_n 2, 1) := by decide +kernel
theorem dX6_bitsOf_10 : decode cX6_bitsOf 10 = .ok (.ldc2_w 319, 3) := by decide +kernel
theorem dX6_bitsOf_13 : decode cX6_bitsOf 13 = .ok (.lstore 4, 2) := by decide +kernel
theorem dX6_bitsOf_15 : decode cX6_bitsOf 15 = .ok (.iconst 0, 1) := by decide +kernel
theorem dX6_bitsOf_16 : decode cX6_bitsOf 16 = .ok (.istore 6, 2) := by decide +kernel
theorem dX6_bitsOf_18 : decode cX6_bitsOf 18 = .ok (.iload 6, 2) := by decide +kernel
theorem dX6_bitsOf_20 : decode cX6_bitsOf 20 = .ok (.sipush 1100, 3) := by decide +kernel
theorem dX6_bitsOf_23 : decode cX6_bitsOf 23 = .ok (.if_icmp .ge 29, 3) := by decide +kernel
theorem dX6_bitsOf_26 : decode cX6_bitsOf 26 = .ok (.dload_n 2, 1) := by decide +kernel
theorem dX6_bitsOf_27 : decode cX6_bitsOf 27 = .ok (.ldc2_w 321, 3) := by decide +kernel
theorem dX6_bitsOf_30 : decode cX6_bitsOf 30 = .ok (.dcmp .l, 1) := by decide +kernel
theorem dX6_bitsOf_31 : decode cX6_bitsOf 31 = .ok (.ifCond .lt 21, 3) := by decide +kernel
theorem dX6_bitsOf_34 : decode cX6_bitsOf 34 = .ok (.dload_n 2, 1) := by decide +kernel
theorem dX6_bitsOf_35 : decode cX6_bitsOf 35 = .ok (.ldc2_w 321, 3) := by decide +kernel
theorem dX6_bitsOf_38 : decode cX6_bitsOf 38 = .ok (.ddiv, 1) := by decide +kernel
theorem dX6_bitsOf_39 : decode cX6_bitsOf 39 = .ok (.dstore_n 2, 1) := by decide +kernel
theorem dX6_bitsOf_40 : decode cX6_bitsOf 40 = .ok (.lload 4, 2) := by decide +kernel
theorem dX6_bitsOf_42 : decode cX6_bitsOf 42 = .ok (.lconst 1, 1) := by decide +kernel
theorem dX6_bitsOf_43 : decode cX6_bitsOf 43 = .ok (.ladd, 1) := by decide +kernel
theorem dX6_bitsOf_44 : decode cX6_bitsOf 44 = .ok (.lstore 4, 2) := by decide +kernel
theorem dX6_bitsOf_46 : decode cX6_bitsOf 46 = .ok (.iinc 6 1, 3) := by decide +kernel
theorem dX6_bitsOf_49 : decode cX6_bitsOf 49 = .ok (.goto (-31), 3) := by decide +kernel
theorem dX6_bitsOf_52 : decode cX6_bitsOf 52 = .ok (.iconst 0, 1) := by decide +kernel
theorem dX6_bitsOf_53 : decode cX6_bitsOf 53 = .ok (.istore 6, 2) := by decide +kernel
theorem dX6_bitsOf_55 : decode cX6_bitsOf 55 = .ok (.iload 6, 2) := by decide +kernel
theorem dX6_bitsOf_57 : decode cX6_bitsOf 57 = .ok (.sipush 1100, 3) := by decide +kernel
theorem dX6_bitsOf_60 : decode cX6_bitsOf 60 = .ok (.if_icmp .ge 27, 3) := by decide +kernel
theorem dX6_bitsOf_63 : decode cX6_bitsOf 63 = .ok (.dload_n 2, 1) := by decide +kernel
theorem dX6_bitsOf_64 : decode cX6_bitsOf 64 = .ok (.dconst 1, 1) := by decide +kernel
theorem dX6_bitsOf_65 : decode cX6_bitsOf 65 = .ok (.dcmp .g, 1) := by decide +kernel
theorem dX6_bitsOf_66 : decode cX6_bitsOf 66 = .ok (.ifCond .ge 21, 3) := by decide +kernel
theorem dX6_bitsOf_69 : decode cX6_bitsOf 69 = .ok (.dload_n 2, 1) := by decide +kernel
theorem dX6_bitsOf_70 : decode cX6_bitsOf 70 = .ok (.ldc2_w 321, 3) := by decide +kernel
theorem dX6_bitsOf_73 : decode cX6_bitsOf 73 = .ok (.dmul, 1) := by decide +kernel
theorem dX6_bitsOf_74 : decode cX6_bitsOf 74 = .ok (.dstore_n 2, 1) := by decide +kernel
theorem dX6_bitsOf_75 : decode cX6_bitsOf 75 = .ok (.lload 4, 2) := by decide +kernel
theorem dX6_bitsOf_77 : decode cX6_bitsOf 77 = .ok (.lconst 1, 1) := by decide +kernel
theorem dX6_bitsOf_78 : decode cX6_bitsOf 78 = .ok (.lsub, 1) := by decide +kernel
theorem dX6_bitsOf_79 : decode cX6_bitsOf 79 = .ok (.lstore 4, 2) := by decide +kernel
theorem dX6_bitsOf_81 : decode cX6_bitsOf 81 = .ok (.iinc 6 1, 3) := by decide +kernel
theorem dX6_bitsOf_84 : decode cX6_bitsOf 84 = .ok (.goto (-29), 3) := by decide +kernel
theorem dX6_bitsOf_87 : decode cX6_bitsOf 87 = .ok (.dload_n 2, 1) := by decide +kernel
theorem dX6_bitsOf_88 : decode cX6_bitsOf 88 = .ok (.dconst 1, 1) := by decide +kernel
theorem dX6_bitsOf_89 : decode cX6_bitsOf 89 = .ok (.dsub, 1) := by decide +kernel
theorem dX6_bitsOf_90 : decode cX6_bitsOf 90 = .ok (.ldc2_w 323, 3) := by decide +kernel
theorem dX6_bitsOf_93 : decode cX6_bitsOf 93 = .ok (.dmul, 1) := by decide +kernel
theorem dX6_bitsOf_94 : decode cX6_bitsOf 94 = .ok (.d2l, 1) := by decide +kernel
theorem dX6_bitsOf_95 : decode cX6_bitsOf 95 = .ok (.lstore 6, 2) := by decide +kernel
theorem dX6_bitsOf_97 : decode cX6_bitsOf 97 = .ok (.lload 4, 2) := by decide +kernel
theorem dX6_bitsOf_99 : decode cX6_bitsOf 99 = .ok (.bipush 52, 2) := by decide +kernel
theorem dX6_bitsOf_101 : decode cX6_bitsOf 101 = .ok (.lshl, 1) := by decide +kernel
theorem dX6_bitsOf_102 : decode cX6_bitsOf 102 = .ok (.lload 6, 2) := by decide +kernel
theorem dX6_bitsOf_104 : decode cX6_bitsOf 104 = .ok (.lor, 1) := by decide +kernel
theorem dX6_bitsOf_105 : decode cX6_bitsOf 105 = .ok (.lreturn, 1) := by decide +kernel
theorem dL_law_0 : decode cL_law 0 = .ok (.new 7, 3) := by decide +kernel
theorem dL_law_3 : decode cL_law 3 = .ok (.dup, 1) := by decide +kernel
theorem dL_law_4 : decode cL_law 4 = .ok (.invokespecial 9, 3) := by decide +kernel
theorem dL_law_7 : decode cL_law 7 = .ok (.astore_n 1, 1) := by decide +kernel
theorem dL_law_8 : decode cL_law 8 = .ok (.new 10, 3) := by decide +kernel
theorem dL_law_11 : decode cL_law 11 = .ok (.dup, 1) := by decide +kernel
theorem dL_law_12 : decode cL_law 12 = .ok (.invokespecial 12, 3) := by decide +kernel
theorem dL_law_15 : decode cL_law 15 = .ok (.astore_n 2, 1) := by decide +kernel
theorem dL_law_16 : decode cL_law 16 = .ok (.iconst 0, 1) := by decide +kernel
theorem dL_law_17 : decode cL_law 17 = .ok (.istore_n 3, 1) := by decide +kernel
theorem dL_law_18 : decode cL_law 18 = .ok (.iload_n 3, 1) := by decide +kernel
theorem dL_law_19 : decode cL_law 19 = .ok (.aload_n 0, 1) := by decide +kernel
theorem dL_law_20 : decode cL_law 20 = .ok (.arraylength, 1) := by decide +kernel
theorem dL_law_21 : decode cL_law 21 = .ok (.iconst 4, 1) := by decide +kernel
theorem dL_law_22 : decode cL_law 22 = .ok (.isub, 1) := by decide +kernel
theorem dL_law_23 : decode cL_law 23 = .ok (.if_icmp .gt 950, 3) := by decide +kernel
theorem dL_law_26 : decode cL_law 26 = .ok (.aload_n 0, 1) := by decide +kernel
theorem dL_law_27 : decode cL_law 27 = .ok (.iload_n 3, 1) := by decide +kernel
theorem dL_law_28 : decode cL_law 28 = .ok (.iaload, 1) := by decide +kernel
theorem dL_law_29 : decode cL_law 29 = .ok (.bipush 31, 2) := by decide +kernel
theorem dL_law_31 : decode cL_law 31 = .ok (.iand, 1) := by decide +kernel
theorem dL_law_32 : decode cL_law 32 = .ok (.tableswitch 935 0 29 #[136, 169, 212, 235, 268, 311, 334, 347, 380, 423, 446, 469, 482, 495, 508, 521, 544, 567, 600, 633, 666, 699, 722, 745, 768, 791, 824, 847, 880, 921], 136) := by decide +kernel
theorem dL_law_168 : decode cL_law 168 = .ok (.aload_n 1, 1) := by decide +kernel
theorem dL_law_169 : decode cL_law 169 = .ok (.aload_n 0, 1) := by decide +kernel
theorem dL_law_170 : decode cL_law 170 = .ok (.iload_n 3, 1) := by decide +kernel
theorem dL_law_171 : decode cL_law 171 = .ok (.iconst 1, 1) := by decide +kernel
theorem dL_law_172 : decode cL_law 172 = .ok (.iadd, 1) := by decide +kernel
theorem dL_law_173 : decode cL_law 173 = .ok (.iaload, 1) := by decide +kernel
theorem dL_law_174 : decode cL_law 174 = .ok (.aload_n 0, 1) := by decide +kernel
theorem dL_law_175 : decode cL_law 175 = .ok (.iload_n 3, 1) := by decide +kernel
theorem dL_law_176 : decode cL_law 176 = .ok (.iconst 2, 1) := by decide +kernel
theorem dL_law_177 : decode cL_law 177 = .ok (.iadd, 1) := by decide +kernel
theorem dL_law_178 : decode cL_law 178 = .ok (.iaload, 1) := by decide +kernel
theorem dL_law_179 : decode cL_law 179 = .ok (.invokevirtual 13, 3) := by decide +kernel
theorem dL_law_182 : decode cL_law 182 = .ok (.aload_n 2, 1) := by decide +kernel
theorem dL_law_183 : decode cL_law 183 = .ok (.aload_n 0, 1) := by decide +kernel
theorem dL_law_184 : decode cL_law 184 = .ok (.iload_n 3, 1) := by decide +kernel
theorem dL_law_185 : decode cL_law 185 = .ok (.iconst 1, 1) := by decide +kernel
theorem dL_law_186 : decode cL_law 186 = .ok (.iadd, 1) := by decide +kernel
theorem dL_law_187 : decode cL_law 187 = .ok (.iaload, 1) := by decide +kernel
theorem dL_law_188 : decode cL_law 188 = .ok (.aload_n 0, 1) := by decide +kernel
theorem dL_law_189 : decode cL_law 189 = .ok (.iload_n 3, 1) := by decide +kernel
theorem dL_law_190 : decode cL_law 190 = .ok (.iconst 2, 1) := by decide +kernel
theorem dL_law_191 : decode cL_law 191 = .ok (.iadd, 1) := by decide +kernel
theorem dL_law_192 : decode cL_law 192 = .ok (.iaload, 1) := by decide +kernel
theorem dL_law_193 : decode cL_law 193 = .ok (.invokevirtual 17, 3) := by decide +kernel
theorem dL_law_196 : decode cL_law 196 = .ok (.if_icmp .eq 771, 3) := by decide +kernel
theorem dL_law_199 : decode cL_law 199 = .ok (.iconst 0, 1) := by decide +kernel
theorem dL_law_200 : decode cL_law 200 = .ok (.ireturn, 1) := by decide +kernel
theorem dL_law_201 : decode cL_law 201 = .ok (.aload_n 1, 1) := by decide +kernel
theorem dL_law_202 : decode cL_law 202 = .ok (.aload_n 0, 1) := by decide +kernel
theorem dL_law_203 : decode cL_law 203 = .ok (.iload_n 3, 1) := by decide +kernel
theorem dL_law_204 : decode cL_law 204 = .ok (.iconst 1, 1) := by decide +kernel
theorem dL_law_205 : decode cL_law 205 = .ok (.iadd, 1) := by decide +kernel
theorem dL_law_206 : decode cL_law 206 = .ok (.iaload, 1) := by decide +kernel
theorem dL_law_207 : decode cL_law 207 = .ok (.aload_n 0, 1) := by decide +kernel
theorem dL_law_208 : decode cL_law 208 = .ok (.iload_n 3, 1) := by decide +kernel
theorem dL_law_209 : decode cL_law 209 = .ok (.iconst 2, 1) := by decide +kernel
theorem dL_law_210 : decode cL_law 210 = .ok (.iadd, 1) := by decide +kernel
theorem dL_law_211 : decode cL_law 211 = .ok (.iaload, 1) := by decide +kernel
theorem dL_law_212 : decode cL_law 212 = .ok (.aload_n 0, 1) := by decide +kernel
theorem dL_law_213 : decode cL_law 213 = .ok (.iload_n 3, 1) := by decide +kernel
theorem dL_law_214 : decode cL_law 214 = .ok (.iconst 3, 1) := by decide +kernel
theorem dL_law_215 : decode cL_law 215 = .ok (.iadd, 1) := by decide +kernel
theorem dL_law_216 : decode cL_law 216 = .ok (.iaload, 1) := by decide +kernel
theorem dL_law_217 : decode cL_law 217 = .ok (.invokevirtual 18, 3) := by decide +kernel
theorem dL_law_220 : decode cL_law 220 = .ok (.aload_n 2, 1) := by decide +kernel
theorem dL_law_221 : decode cL_law 221 = .ok (.aload_n 0, 1) := by decide +kernel
theorem dL_law_222 : decode cL_law 222 = .ok (.iload_n 3, 1) := by decide +kernel
theorem dL_law_223 : decode cL_law 223 = .ok (.iconst 1, 1) := by decide +kernel
theorem dL_law_224 : decode cL_law 224 = .ok (.iadd, 1) := by decide +kernel
theorem dL_law_225 : decode cL_law 225 = .ok (.iaload, 1) := by decide +kernel
theorem dL_law_226 : decode cL_law 226 = .ok (.aload_n 0, 1) := by decide +kernel
theorem dL_law_227 : decode cL_law 227 = .ok (.iload_n 3, 1) := by decide +kernel
theorem dL_law_228 : decode cL_law 228 = .ok (.iconst 2, 1) := by decide +kernel
theorem dL_law_229 : decode cL_law 229 = .ok (.iadd, 1) := by decide +kernel
theorem dL_law_230 : decode cL_law 230 = .ok (.iaload, 1) := by decide +kernel
theorem dL_law_231 : decode cL_law 231 = .ok (.aload_n 0, 1) := by decide +kernel
theorem dL_law_232 : decode cL_law 232 = .ok (.iload_n 3, 1) := by decide +kernel
theorem dL_law_233 : decode cL_law 233 = .ok (.iconst 3, 1) := by decide +kernel
theorem dL_law_234 : decode cL_law 234 = .ok (.iadd, 1) := by decide +kernel
theorem dL_law_235 : decode cL_law 235 = .ok (.iaload, 1) := by decide +kernel
theorem dL_law_236 : decode cL_law 236 = .ok (.invokevirtual 22, 3) := by decide +kernel
theorem dL_law_239 : decode cL_law 239 = .ok (.if_icmp .eq 728, 3) := by decide +kernel
theorem dL_law_242 : decode cL_law 242 = .ok (.iconst 0, 1) := by decide +kernel
theorem dL_law_243 : decode cL_law 243 = .ok (.ireturn, 1) := by decide +kernel
theorem dL_law_244 : decode cL_law 244 = .ok (.aload_n 1, 1) := by decide +kernel
theorem dL_law_245 : decode cL_law 245 = .ok (.aload_n 0, 1) := by decide +kernel
theorem dL_law_246 : decode cL_law 246 = .ok (.iload_n 3, 1) := by decide +kernel
theorem dL_law_247 : decode cL_law 247 = .ok (.iconst 1, 1) := by decide +kernel
theorem dL_law_248 : decode cL_law 248 = .ok (.iadd, 1) := by decide +kernel
theorem dL_law_249 : decode cL_law 249 = .ok (.iaload, 1) := by decide +kernel
theorem dL_law_250 : decode cL_law 250 = .ok (.invokevirtual 23, 3) := by decide +kernel
theorem dL_law_253 : decode cL_law 253 = .ok (.aload_n 2, 1) := by decide +kernel
theorem dL_law_254 : decode cL_law 254 = .ok (.aload_n 0, 1) := by decide +kernel
theorem dL_law_255 : decode cL_law 255 = .ok (.iload_n 3, 1) := by decide +kernel
theorem dL_law_256 : decode cL_law 256 = .ok (.iconst 1, 1) := by decide +kernel
theorem dL_law_257 : decode cL_law 257 = .ok (.iadd, 1) := by decide +kernel
theorem dL_law_258 : decode cL_law 258 = .ok (.iaload, 1) := by decide +kernel
theorem dL_law_259 : decode cL_law 259 = .ok (.invokevirtual 27, 3) := by decide +kernel
theorem dL_law_262 : decode cL_law 262 = .ok (.if_icmp .eq 705, 3) := by decide +kernel
theorem dL_law_265 : decode cL_law 265 = .ok (.iconst 0, 1) := by decide +kernel
theorem dL_law_266 : decode cL_law 266 = .ok (.ireturn, 1) := by decide +kernel
theorem dL_law_267 : decode cL_law 267 = .ok (.aload_n 1, 1) := by decide +kernel
theorem dL_law_268 : decode cL_law 268 = .ok (.aload_n 0, 1) := by decide +kernel
theorem dL_law_269 : decode cL_law 269 = .ok (.iload_n 3, 1) := by decide +kernel
theorem dL_law_270 : decode cL_law 270 = .ok (.iconst 1, 1) := by decide +kernel
theorem dL_law_271 : decode cL_law 271 = .ok (.iadd, 1) := by decide +kernel
theorem dL_law_272 : decode cL_law 272 = .ok (.iaload, 1) := by decide +kernel
theorem dL_law_273 : decode cL_law 273 = .ok (.aload_n 0, 1) := by decide +kernel
theorem dL_law_274 : decode cL_law 274 = .ok (.iload_n 3, 1) := by decide +kernel
theorem dL_law_275 : decode cL_law 275 = .ok (.iconst 2, 1) := by decide +kernel
theorem dL_law_276 : decode cL_law 276 = .ok (.iadd, 1) := by decide +kernel
theorem dL_law_277 : decode cL_law 277 = .ok (.iaload, 1) := by decide +kernel
theorem dL_law_278 : decode cL_law 278 = .ok (.invokevirtual 28, 3) := by decide +kernel
theorem dL_law_281 : decode cL_law 281 = .ok (.aload_n 2, 1) := by decide +kernel
theorem dL_law_282 : decode cL_law 282 = .ok (.aload_n 0, 1) := by decide +kernel
theorem dL_law_283 : decode cL_law 283 = .ok (.iload_n 3, 1) := by decide +kernel
theorem dL_law_284 : decode cL_law 284 = .ok (.iconst 1, 1) := by decide +kernel
theorem dL_law_285 : decode cL_law 285 = .ok (.iadd, 1) := by decide +kernel
theorem dL_law_286 : decode cL_law 286 = .ok (.iaload, 1) := by decide +kernel
theorem dL_law_287 : decode cL_law 287 = .ok (.aload_n 0, 1) := by decide +kernel
theorem dL_law_288 : decode cL_law 288 = .ok (.iload_n 3, 1) := by decide +kernel
theorem dL_law_289 : decode cL_law 289 = .ok (.iconst 2, 1) := by decide +kernel
theorem dL_law_290 : decode cL_law 290 = .ok (.iadd, 1) := by decide +kernel
theorem dL_law_291 : decode cL_law 291 = .ok (.iaload, 1) := by decide +kernel
theorem dL_law_292 : decode cL_law 292 = .ok (.invokevirtual 31, 3) := by decide +kernel
theorem dL_law_295 : decode cL_law 295 = .ok (.if_icmp .eq 672, 3) := by decide +kernel
theorem dL_law_298 : decode cL_law 298 = .ok (.iconst 0, 1) := by decide +kernel
theorem dL_law_299 : decode cL_law 299 = .ok (.ireturn, 1) := by decide +kernel
theorem dL_law_300 : decode cL_law 300 = .ok (.aload_n 1, 1) := by decide +kernel
theorem dL_law_301 : decode cL_law 301 = .ok (.aload_n 0, 1) := by decide +kernel
theorem dL_law_302 : decode cL_law 302 = .ok (.iload_n 3, 1) := by decide +kernel
theorem dL_law_303 : decode cL_law 303 = .ok (.iconst 1, 1) := by decide +kernel
theorem dL_law_304 : decode cL_law 304 = .ok (.iadd, 1) := by decide +kernel
theorem dL_law_305 : decode cL_law 305 = .ok (.iaload, 1) := by decide +kernel
theorem dL_law_306 : decode cL_law 306 = .ok (.aload_n 0, 1) := by decide +kernel
theorem dL_law_307 : decode cL_law 307 = .ok (.iload_n 3, 1) := by decide +kernel
theorem dL_law_308 : decode cL_law 308 = .ok (.iconst 2, 1) := by decide +kernel
theorem dL_law_309 : decode cL_law 309 = .ok (.iadd, 1) := by decide +kernel
theorem dL_law_310 : decode cL_law 310 = .ok (.iaload, 1) := by decide +kernel
theorem dL_law_311 : decode cL_law 311 = .ok (.aload_n 0, 1) := by decide +kernel
theorem dL_law_312 : decode cL_law 312 = .ok (.iload_n 3, 1) := by decide +kernel
theorem dL_law_313 : decode cL_law 313 = .ok (.iconst 3, 1) := by decide +kernel
theorem dL_law_314 : decode cL_law 314 = .ok (.iadd, 1) := by decide +kernel
theorem dL_law_315 : decode cL_law 315 = .ok (.iaload, 1) := by decide +kernel
theorem dL_law_316 : decode cL_law 316 = .ok (.invokevirtual 32, 3) := by decide +kernel
theorem dL_law_319 : decode cL_law 319 = .ok (.aload_n 2, 1) := by decide +kernel
theorem dL_law_320 : decode cL_law 320 = .ok (.aload_n 0, 1) := by decide +kernel
theorem dL_law_321 : decode cL_law 321 = .ok (.iload_n 3, 1) := by decide +kernel
theorem dL_law_322 : decode cL_law 322 = .ok (.iconst 1, 1) := by decide +kernel
theorem dL_law_323 : decode cL_law 323 = .ok (.iadd, 1) := by decide +kernel
theorem dL_law_324 : decode cL_law 324 = .ok (.iaload, 1) := by decide +kernel
theorem dL_law_325 : decode cL_law 325 = .ok (.aload_n 0, 1) := by decide +kernel
theorem dL_law_326 : decode cL_law 326 = .ok (.iload_n 3, 1) := by decide +kernel
theorem dL_law_327 : decode cL_law 327 = .ok (.iconst 2, 1) := by decide +kernel
theorem dL_law_328 : decode cL_law 328 = .ok (.iadd, 1) := by decide +kernel
theorem dL_law_329 : decode cL_law 329 = .ok (.iaload, 1) := by decide +kernel
theorem dL_law_330 : decode cL_law 330 = .ok (.aload_n 0, 1) := by decide +kernel
theorem dL_law_331 : decode cL_law 331 = .ok (.iload_n 3, 1) := by decide +kernel
theorem dL_law_332 : decode cL_law 332 = .ok (.iconst 3, 1) := by decide +kernel
theorem dL_law_333 : decode cL_law 333 = .ok (.iadd, 1) := by decide +kernel
theorem dL_law_334 : decode cL_law 334 = .ok (.iaload, 1) := by decide +kernel
theorem dL_law_335 : decode cL_law 335 = .ok (.invokevirtual 35, 3) := by decide +kernel
theorem dL_law_338 : decode cL_law 338 = .ok (.if_icmp .eq 629, 3) := by decide +kernel
theorem dL_law_341 : decode cL_law 341 = .ok (.iconst 0, 1) := by decide +kernel
theorem dL_law_342 : decode cL_law 342 = .ok (.ireturn, 1) := by decide +kernel
theorem dL_law_343 : decode cL_law 343 = .ok (.aload_n 1, 1) := by decide +kernel
theorem dL_law_344 : decode cL_law 344 = .ok (.aload_n 0, 1) := by decide +kernel
theorem dL_law_345 : decode cL_law 345 = .ok (.iload_n 3, 1) := by decide +kernel
theorem dL_law_346 : decode cL_law 346 = .ok (.iconst 1, 1) := by decide +kernel
theorem dL_law_347 : decode cL_law 347 = .ok (.iadd, 1) := by decide +kernel
theorem dL_law_348 : decode cL_law 348 = .ok (.iaload, 1) := by decide +kernel
theorem dL_law_349 : decode cL_law 349 = .ok (.invokevirtual 36, 3) := by decide +kernel
theorem dL_law_352 : decode cL_law 352 = .ok (.aload_n 2, 1) := by decide +kernel
theorem dL_law_353 : decode cL_law 353 = .ok (.aload_n 0, 1) := by decide +kernel
theorem dL_law_354 : decode cL_law 354 = .ok (.iload_n 3, 1) := by decide +kernel
theorem dL_law_355 : decode cL_law 355 = .ok (.iconst 1, 1) := by decide +kernel
theorem dL_law_356 : decode cL_law 356 = .ok (.iadd, 1) := by decide +kernel
theorem dL_law_357 : decode cL_law 357 = .ok (.iaload, 1) := by decide +kernel
theorem dL_law_358 : decode cL_law 358 = .ok (.invokevirtual 39, 3) := by decide +kernel
theorem dL_law_361 : decode cL_law 361 = .ok (.if_icmp .eq 606, 3) := by decide +kernel
theorem dL_law_364 : decode cL_law 364 = .ok (.iconst 0, 1) := by decide +kernel
theorem dL_law_365 : decode cL_law 365 = .ok (.ireturn, 1) := by decide +kernel
theorem dL_law_366 : decode cL_law 366 = .ok (.aload_n 1, 1) := by decide +kernel
theorem dL_law_367 : decode cL_law 367 = .ok (.invokevirtual 40, 3) := by decide +kernel
theorem dL_law_370 : decode cL_law 370 = .ok (.aload_n 2, 1) := by decide +kernel
theorem dL_law_371 : decode cL_law 371 = .ok (.invokevirtual 44, 3) := by decide +kernel
theorem dL_law_374 : decode cL_law 374 = .ok (.if_icmp .eq 593, 3) := by decide +kernel
theorem dL_law_377 : decode cL_law 377 = .ok (.iconst 0, 1) := by decide +kernel
theorem dL_law_378 : decode cL_law 378 = .ok (.ireturn, 1) := by decide +kernel
theorem dL_law_379 : decode cL_law 379 = .ok (.aload_n 1, 1) := by decide +kernel
theorem dL_law_380 : decode cL_law 380 = .ok (.aload_n 0, 1) := by decide +kernel
theorem dL_law_381 : decode cL_law 381 = .ok (.iload_n 3, 1) := by decide +kernel
theorem dL_law_382 : decode cL_law 382 = .ok (.iconst 1, 1) := by decide +kernel
theorem dL_law_383 : decode cL_law 383 = .ok (.iadd, 1) := by decide +kernel
theorem dL_law_384 : decode cL_law 384 = .ok (.iaload, 1) := by decide +kernel
theorem dL_law_385 : decode cL_law 385 = .ok (.aload_n 0, 1) := by decide +kernel
theorem dL_law_386 : decode cL_law 386 = .ok (.iload_n 3, 1) := by decide +kernel
theorem dL_law_387 : decode cL_law 387 = .ok (.iconst 2, 1) := by decide +kernel
theorem dL_law_388 : decode cL_law 388 = .ok (.iadd, 1) := by decide +kernel
theorem dL_law_389 : decode cL_law 389 = .ok (.iaload, 1) := by decide +kernel
theorem dL_law_390 : decode cL_law 390 = .ok (.invokevirtual 45, 3) := by decide +kernel
theorem dL_law_393 : decode cL_law 393 = .ok (.aload_n 2, 1) := by decide +kernel
theorem dL_law_394 : decode cL_law 394 = .ok (.aload_n 0, 1) := by decide +kernel
theorem dL_law_395 : decode cL_law 395 = .ok (.iload_n 3, 1) := by decide +kernel
theorem dL_law_396 : decode cL_law 396 = .ok (.iconst 1, 1) := by decide +kernel
theorem dL_law_397 : decode cL_law 397 = .ok (.iadd, 1) := by decide +kernel
theorem dL_law_398 : decode cL_law 398 = .ok (.iaload, 1) := by decide +kernel
theorem dL_law_399 : decode cL_law 399 = .ok (.aload_n 0, 1) := by decide +kernel
theorem dL_law_400 : decode cL_law 400 = .ok (.iload_n 3, 1) := by decide +kernel
theorem dL_law_401 : decode cL_law 401 = .ok (.iconst 2, 1) := by decide +kernel
theorem dL_law_402 : decode cL_law 402 = .ok (.iadd, 1) := by decide +kernel
theorem dL_law_403 : decode cL_law 403 = .ok (.iaload, 1) := by decide +kernel
theorem dL_law_404 : decode cL_law 404 = .ok (.invokevirtual 48, 3) := by decide +kernel
theorem dL_law_407 : decode cL_law 407 = .ok (.if_icmp .eq 560, 3) := by decide +kernel
theorem dL_law_410 : decode cL_law 410 = .ok (.iconst 0, 1) := by decide +kernel
theorem dL_law_411 : decode cL_law 411 = .ok (.ireturn, 1) := by decide +kernel
theorem dL_law_412 : decode cL_law 412 = .ok (.aload_n 1, 1) := by decide +kernel
theorem dL_law_413 : decode cL_law 413 = .ok (.aload_n 0, 1) := by decide +kernel
theorem dL_law_414 : decode cL_law 414 = .ok (.iload_n 3, 1) := by decide +kernel
theorem dL_law_415 : decode cL_law 415 = .ok (.iconst 1, 1) := by decide +kernel
theorem dL_law_416 : decode cL_law 416 = .ok (.iadd, 1) := by decide +kernel
theorem dL_law_417 : decode cL_law 417 = .ok (.iaload, 1) := by decide +kernel
theorem dL_law_418 : decode cL_law 418 = .ok (.aload_n 0, 1) := by decide +kernel
theorem dL_law_419 : decode cL_law 419 = .ok (.iload_n 3, 1) := by decide +kernel
theorem dL_law_420 : decode cL_law 420 = .ok (.iconst 2, 1) := by decide +kernel
theorem dL_law_421 : decode cL_law 421 = .ok (.iadd, 1) := by decide +kernel
theorem dL_law_422 : decode cL_law 422 = .ok (.iaload, 1) := by decide +kernel
theorem dL_law_423 : decode cL_law 423 = .ok (.aload_n 0, 1) := by decide +kernel
theorem dL_law_424 : decode cL_law 424 = .ok (.iload_n 3, 1) := by decide +kernel
theorem dL_law_425 : decode cL_law 425 = .ok (.iconst 3, 1) := by decide +kernel
theorem dL_law_426 : decode cL_law 426 = .ok (.iadd, 1) := by decide +kernel
theorem dL_law_427 : decode cL_law 427 = .ok (.iaload, 1) := by decide +kernel
theorem dL_law_428 : decode cL_law 428 = .ok (.invokevirtual 49, 3) := by decide +kernel
theorem dL_law_431 : decode cL_law 431 = .ok (.aload_n 2, 1) := by decide +kernel
theorem dL_law_432 : decode cL_law 432 = .ok (.aload_n 0, 1) := by decide +kernel
theorem dL_law_433 : decode cL_law 433 = .ok (.iload_n 3, 1) := by decide +kernel
theorem dL_law_434 : decode cL_law 434 = .ok (.iconst 1, 1) := by decide +kernel
theorem dL_law_435 : decode cL_law 435 = .ok (.iadd, 1) := by decide +kernel
theorem dL_law_436 : decode cL_law 436 = .ok (.iaload, 1) := by decide +kernel
theorem dL_law_437 : decode cL_law 437 = .ok (.aload_n 0, 1) := by decide +kernel
theorem dL_law_438 : decode cL_law 438 = .ok (.iload_n 3, 1) := by decide +kernel
theorem dL_law_439 : decode cL_law 439 = .ok (.iconst 2, 1) := by decide +kernel
theorem dL_law_440 : decode cL_law 440 = .ok (.iadd, 1) := by decide +kernel
theorem dL_law_441 : decode cL_law 441 = .ok (.iaload, 1) := by decide +kernel
theorem dL_law_442 : decode cL_law 442 = .ok (.aload_n 0, 1) := by decide +kernel
theorem dL_law_443 : decode cL_law 443 = .ok (.iload_n 3, 1) := by decide +kernel
theorem dL_law_444 : decode cL_law 444 = .ok (.iconst 3, 1) := by decide +kernel
theorem dL_law_445 : decode cL_law 445 = .ok (.iadd, 1) := by decide +kernel
theorem dL_law_446 : decode cL_law 446 = .ok (.iaload, 1) := by decide +kernel
theorem dL_law_447 : decode cL_law 447 = .ok (.invokevirtual 52, 3) := by decide +kernel
theorem dL_law_450 : decode cL_law 450 = .ok (.if_icmp .eq 517, 3) := by decide +kernel
theorem dL_law_453 : decode cL_law 453 = .ok (.iconst 0, 1) := by decide +kernel
theorem dL_law_454 : decode cL_law 454 = .ok (.ireturn, 1) := by decide +kernel
theorem dL_law_455 : decode cL_law 455 = .ok (.aload_n 1, 1) := by decide +kernel
theorem dL_law_456 : decode cL_law 456 = .ok (.aload_n 0, 1) := by decide +kernel
theorem dL_law_457 : decode cL_law 457 = .ok (.iload_n 3, 1) := by decide +kernel
theorem dL_law_458 : decode cL_law 458 = .ok (.iconst 1, 1) := by decide +kernel
theorem dL_law_459 : decode cL_law 459 = .ok (.iadd, 1) := by decide +kernel
theorem dL_law_460 : decode cL_law 460 = .ok (.iaload, 1) := by decide +kernel
theorem dL_law_461 : decode cL_law 461 = .ok (.invokevirtual 53, 3) := by decide +kernel
theorem dL_law_464 : decode cL_law 464 = .ok (.aload_n 2, 1) := by decide +kernel
theorem dL_law_465 : decode cL_law 465 = .ok (.aload_n 0, 1) := by decide +kernel
theorem dL_law_466 : decode cL_law 466 = .ok (.iload_n 3, 1) := by decide +kernel
theorem dL_law_467 : decode cL_law 467 = .ok (.iconst 1, 1) := by decide +kernel
theorem dL_law_468 : decode cL_law 468 = .ok (.iadd, 1) := by decide +kernel
theorem dL_law_469 : decode cL_law 469 = .ok (.iaload, 1) := by decide +kernel
theorem dL_law_470 : decode cL_law 470 = .ok (.invokevirtual 56, 3) := by decide +kernel
theorem dL_law_473 : decode cL_law 473 = .ok (.if_icmp .eq 494, 3) := by decide +kernel
theorem dL_law_476 : decode cL_law 476 = .ok (.iconst 0, 1) := by decide +kernel
theorem dL_law_477 : decode cL_law 477 = .ok (.ireturn, 1) := by decide +kernel
theorem dL_law_478 : decode cL_law 478 = .ok (.aload_n 1, 1) := by decide +kernel
theorem dL_law_479 : decode cL_law 479 = .ok (.aload_n 0, 1) := by decide +kernel
theorem dL_law_480 : decode cL_law 480 = .ok (.iload_n 3, 1) := by decide +kernel
theorem dL_law_481 : decode cL_law 481 = .ok (.iconst 1, 1) := by decide +kernel
theorem dL_law_482 : decode cL_law 482 = .ok (.iadd, 1) := by decide +kernel
theorem dL_law_483 : decode cL_law 483 = .ok (.iaload, 1) := by decide +kernel
theorem dL_law_484 : decode cL_law 484 = .ok (.invokevirtual 57, 3) := by decide +kernel
theorem dL_law_487 : decode cL_law 487 = .ok (.aload_n 2, 1) := by decide +kernel
theorem dL_law_488 : decode cL_law 488 = .ok (.aload_n 0, 1) := by decide +kernel
theorem dL_law_489 : decode cL_law 489 = .ok (.iload_n 3, 1) := by decide +kernel
theorem dL_law_490 : decode cL_law 490 = .ok (.iconst 1, 1) := by decide +kernel
theorem dL_law_491 : decode cL_law 491 = .ok (.iadd, 1) := by decide +kernel
theorem dL_law_492 : decode cL_law 492 = .ok (.iaload, 1) := by decide +kernel
theorem dL_law_493 : decode cL_law 493 = .ok (.invokevirtual 60, 3) := by decide +kernel
theorem dL_law_496 : decode cL_law 496 = .ok (.if_icmp .eq 471, 3) := by decide +kernel
theorem dL_law_499 : decode cL_law 499 = .ok (.iconst 0, 1) := by decide +kernel
theorem dL_law_500 : decode cL_law 500 = .ok (.ireturn, 1) := by decide +kernel
theorem dL_law_501 : decode cL_law 501 = .ok (.aload_n 1, 1) := by decide +kernel
theorem dL_law_502 : decode cL_law 502 = .ok (.invokevirtual 61, 3) := by decide +kernel
theorem dL_law_505 : decode cL_law 505 = .ok (.aload_n 2, 1) := by decide +kernel
theorem dL_law_506 : decode cL_law 506 = .ok (.invokevirtual 64, 3) := by decide +kernel
theorem dL_law_509 : decode cL_law 509 = .ok (.if_icmp .eq 458, 3) := by decide +kernel
theorem dL_law_512 : decode cL_law 512 = .ok (.iconst 0, 1) := by decide +kernel
theorem dL_law_513 : decode cL_law 513 = .ok (.ireturn, 1) := by decide +kernel
theorem dL_law_514 : decode cL_law 514 = .ok (.aload_n 1, 1) := by decide +kernel
theorem dL_law_515 : decode cL_law 515 = .ok (.invokevirtual 65, 3) := by decide +kernel
theorem dL_law_518 : decode cL_law 518 = .ok (.aload_n 2, 1) := by decide +kernel
theorem dL_law_519 : decode cL_law 519 = .ok (.invokevirtual 68, 3) := by decide +kernel
theorem dL_law_522 : decode cL_law 522 = .ok (.if_icmp .eq 445, 3) := by decide +kernel
theorem dL_law_525 : decode cL_law 525 = .ok (.iconst 0, 1) := by decide +kernel
theorem dL_law_526 : decode cL_law 526 = .ok (.ireturn, 1) := by decide +kernel
theorem dL_law_527 : decode cL_law 527 = .ok (.aload_n 1, 1) := by decide +kernel
theorem dL_law_528 : decode cL_law 528 = .ok (.invokevirtual 69, 3) := by decide +kernel
theorem dL_law_531 : decode cL_law 531 = .ok (.aload_n 2, 1) := by decide +kernel
theorem dL_law_532 : decode cL_law 532 = .ok (.invokevirtual 72, 3) := by decide +kernel
theorem dL_law_535 : decode cL_law 535 = .ok (.if_icmp .eq 432, 3) := by decide +kernel
theorem dL_law_538 : decode cL_law 538 = .ok (.iconst 0, 1) := by decide +kernel
theorem dL_law_539 : decode cL_law 539 = .ok (.ireturn, 1) := by decide +kernel
theorem dL_law_540 : decode cL_law 540 = .ok (.aload_n 1, 1) := by decide +kernel
theorem dL_law_541 : decode cL_law 541 = .ok (.invokevirtual 73, 3) := by decide +kernel
theorem dL_law_544 : decode cL_law 544 = .ok (.aload_n 2, 1) := by decide +kernel
theorem dL_law_545 : decode cL_law 545 = .ok (.invokevirtual 76, 3) := by decide +kernel
theorem dL_law_548 : decode cL_law 548 = .ok (.if_icmp .eq 419, 3) := by decide +kernel
theorem dL_law_551 : decode cL_law 551 = .ok (.iconst 0, 1) := by decide +kernel
theorem dL_law_552 : decode cL_law 552 = .ok (.ireturn, 1) := by decide +kernel
theorem dL_law_553 : decode cL_law 553 = .ok (.aload_n 1, 1) := by decide +kernel
theorem dL_law_554 : decode cL_law 554 = .ok (.aload_n 0, 1) := by decide +kernel
theorem dL_law_555 : decode cL_law 555 = .ok (.iload_n 3, 1) := by decide +kernel
theorem dL_law_556 : decode cL_law 556 = .ok (.iconst 1, 1) := by decide +kernel
theorem dL_law_557 : decode cL_law 557 = .ok (.iadd, 1) := by decide +kernel
theorem dL_law_558 : decode cL_law 558 = .ok (.iaload, 1) := by decide +kernel
theorem dL_law_559 : decode cL_law 559 = .ok (.invokevirtual 77, 3) := by decide +kernel
theorem dL_law_562 : decode cL_law 562 = .ok (.aload_n 2, 1) := by decide +kernel
theorem dL_law_563 : decode cL_law 563 = .ok (.aload_n 0, 1) := by decide +kernel
theorem dL_law_564 : decode cL_law 564 = .ok (.iload_n 3, 1) := by decide +kernel
theorem dL_law_565 : decode cL_law 565 = .ok (.iconst 1, 1) := by decide +kernel
theorem dL_law_566 : decode cL_law 566 = .ok (.iadd, 1) := by decide +kernel
theorem dL_law_567 : decode cL_law 567 = .ok (.iaload, 1) := by decide +kernel
theorem dL_law_568 : decode cL_law 568 = .ok (.invokevirtual 80, 3) := by decide +kernel
theorem dL_law_571 : decode cL_law 571 = .ok (.if_icmp .eq 396, 3) := by decide +kernel
theorem dL_law_574 : decode cL_law 574 = .ok (.iconst 0, 1) := by decide +kernel
theorem dL_law_575 : decode cL_law 575 = .ok (.ireturn, 1) := by decide +kernel
theorem dL_law_576 : decode cL_law 576 = .ok (.aload_n 1, 1) := by decide +kernel
theorem dL_law_577 : decode cL_law 577 = .ok (.aload_n 0, 1) := by decide +kernel
theorem dL_law_578 : decode cL_law 578 = .ok (.iload_n 3, 1) := by decide +kernel
theorem dL_law_579 : decode cL_law 579 = .ok (.iconst 1, 1) := by decide +kernel
theorem dL_law_580 : decode cL_law 580 = .ok (.iadd, 1) := by decide +kernel
theorem dL_law_581 : decode cL_law 581 = .ok (.iaload, 1) := by decide +kernel
theorem dL_law_582 : decode cL_law 582 = .ok (.invokevirtual 81, 3) := by decide +kernel
theorem dL_law_585 : decode cL_law 585 = .ok (.aload_n 2, 1) := by decide +kernel
theorem dL_law_586 : decode cL_law 586 = .ok (.aload_n 0, 1) := by decide +kernel
theorem dL_law_587 : decode cL_law 587 = .ok (.iload_n 3, 1) := by decide +kernel
theorem dL_law_588 : decode cL_law 588 = .ok (.iconst 1, 1) := by decide +kernel
theorem dL_law_589 : decode cL_law 589 = .ok (.iadd, 1) := by decide +kernel
theorem dL_law_590 : decode cL_law 590 = .ok (.iaload, 1) := by decide +kernel
theorem dL_law_591 : decode cL_law 591 = .ok (.invokevirtual 84, 3) := by decide +kernel
theorem dL_law_594 : decode cL_law 594 = .ok (.if_icmp .eq 373, 3) := by decide +kernel
theorem dL_law_597 : decode cL_law 597 = .ok (.iconst 0, 1) := by decide +kernel
theorem dL_law_598 : decode cL_law 598 = .ok (.ireturn, 1) := by decide +kernel
theorem dL_law_599 : decode cL_law 599 = .ok (.aload_n 1, 1) := by decide +kernel
theorem dL_law_600 : decode cL_law 600 = .ok (.aload_n 0, 1) := by decide +kernel
theorem dL_law_601 : decode cL_law 601 = .ok (.iload_n 3, 1) := by decide +kernel
theorem dL_law_602 : decode cL_law 602 = .ok (.iconst 1, 1) := by decide +kernel
theorem dL_law_603 : decode cL_law 603 = .ok (.iadd, 1) := by decide +kernel
theorem dL_law_604 : decode cL_law 604 = .ok (.iaload, 1) := by decide +kernel
theorem dL_law_605 : decode cL_law 605 = .ok (.aload_n 0, 1) := by decide +kernel
theorem dL_law_606 : decode cL_law 606 = .ok (.iload_n 3, 1) := by decide +kernel
theorem dL_law_607 : decode cL_law 607 = .ok (.iconst 2, 1) := by decide +kernel
theorem dL_law_608 : decode cL_law 608 = .ok (.iadd, 1) := by decide +kernel
theorem dL_law_609 : decode cL_law 609 = .ok (.iaload, 1) := by decide +kernel
theorem dL_law_610 : decode cL_law 610 = .ok (.invokevirtual 85, 3) := by decide +kernel
theorem dL_law_613 : decode cL_law 613 = .ok (.aload_n 2, 1) := by decide +kernel
theorem dL_law_614 : decode cL_law 614 = .ok (.aload_n 0, 1) := by decide +kernel
theorem dL_law_615 : decode cL_law 615 = .ok (.iload_n 3, 1) := by decide +kernel
theorem dL_law_616 : decode cL_law 616 = .ok (.iconst 1, 1) := by decide +kernel
theorem dL_law_617 : decode cL_law 617 = .ok (.iadd, 1) := by decide +kernel
theorem dL_law_618 : decode cL_law 618 = .ok (.iaload, 1) := by decide +kernel
theorem dL_law_619 : decode cL_law 619 = .ok (.aload_n 0, 1) := by decide +kernel
theorem dL_law_620 : decode cL_law 620 = .ok (.iload_n 3, 1) := by decide +kernel
theorem dL_law_621 : decode cL_law 621 = .ok (.iconst 2, 1) := by decide +kernel
theorem dL_law_622 : decode cL_law 622 = .ok (.iadd, 1) := by decide +kernel
theorem dL_law_623 : decode cL_law 623 = .ok (.iaload, 1) := by decide +kernel
theorem dL_law_624 : decode cL_law 624 = .ok (.invokevirtual 88, 3) := by decide +kernel
theorem dL_law_627 : decode cL_law 627 = .ok (.if_icmp .eq 340, 3) := by decide +kernel
theorem dL_law_630 : decode cL_law 630 = .ok (.iconst 0, 1) := by decide +kernel
theorem dL_law_631 : decode cL_law 631 = .ok (.ireturn, 1) := by decide +kernel
theorem dL_law_632 : decode cL_law 632 = .ok (.aload_n 1, 1) := by decide +kernel
theorem dL_law_633 : decode cL_law 633 = .ok (.aload_n 0, 1) := by decide +kernel
theorem dL_law_634 : decode cL_law 634 = .ok (.iload_n 3, 1) := by decide +kernel
theorem dL_law_635 : decode cL_law 635 = .ok (.iconst 1, 1) := by decide +kernel
theorem dL_law_636 : decode cL_law 636 = .ok (.iadd, 1) := by decide +kernel
theorem dL_law_637 : decode cL_law 637 = .ok (.iaload, 1) := by decide +kernel
theorem dL_law_638 : decode cL_law 638 = .ok (.aload_n 0, 1) := by decide +kernel
theorem dL_law_639 : decode cL_law 639 = .ok (.iload_n 3, 1) := by decide +kernel
theorem dL_law_640 : decode cL_law 640 = .ok (.iconst 2, 1) := by decide +kernel
theorem dL_law_641 : decode cL_law 641 = .ok (.iadd, 1) := by decide +kernel
theorem dL_law_642 : decode cL_law 642 = .ok (.iaload, 1) := by decide +kernel
theorem dL_law_643 : decode cL_law 643 = .ok (.invokevirtual 89, 3) := by decide +kernel
theorem dL_law_646 : decode cL_law 646 = .ok (.aload_n 2, 1) := by decide +kernel
theorem dL_law_647 : decode cL_law 647 = .ok (.aload_n 0, 1) := by decide +kernel
theorem dL_law_648 : decode cL_law 648 = .ok (.iload_n 3, 1) := by decide +kernel
theorem dL_law_649 : decode cL_law 649 = .ok (.iconst 1, 1) := by decide +kernel
theorem dL_law_650 : decode cL_law 650 = .ok (.iadd, 1) := by decide +kernel
theorem dL_law_651 : decode cL_law 651 = .ok (.iaload, 1) := by decide +kernel
theorem dL_law_652 : decode cL_law 652 = .ok (.aload_n 0, 1) := by decide +kernel
theorem dL_law_653 : decode cL_law 653 = .ok (.iload_n 3, 1) := by decide +kernel
theorem dL_law_654 : decode cL_law 654 = .ok (.iconst 2, 1) := by decide +kernel
theorem dL_law_655 : decode cL_law 655 = .ok (.iadd, 1) := by decide +kernel
theorem dL_law_656 : decode cL_law 656 = .ok (.iaload, 1) := by decide +kernel
theorem dL_law_657 : decode cL_law 657 = .ok (.invokevirtual 92, 3) := by decide +kernel
theorem dL_law_660 : decode cL_law 660 = .ok (.if_icmp .eq 307, 3) := by decide +kernel
theorem dL_law_663 : decode cL_law 663 = .ok (.iconst 0, 1) := by decide +kernel
theorem dL_law_664 : decode cL_law 664 = .ok (.ireturn, 1) := by decide +kernel
theorem dL_law_665 : decode cL_law 665 = .ok (.aload_n 1, 1) := by decide +kernel
theorem dL_law_666 : decode cL_law 666 = .ok (.aload_n 0, 1) := by decide +kernel
theorem dL_law_667 : decode cL_law 667 = .ok (.iload_n 3, 1) := by decide +kernel
theorem dL_law_668 : decode cL_law 668 = .ok (.iconst 1, 1) := by decide +kernel
theorem dL_law_669 : decode cL_law 669 = .ok (.iadd, 1) := by decide +kernel
theorem dL_law_670 : decode cL_law 670 = .ok (.iaload, 1) := by decide +kernel
theorem dL_law_671 : decode cL_law 671 = .ok (.aload_n 0, 1) := by decide +kernel
theorem dL_law_672 : decode cL_law 672 = .ok (.iload_n 3, 1) := by decide +kernel
theorem dL_law_673 : decode cL_law 673 = .ok (.iconst 2, 1) := by decide +kernel
theorem dL_law_674 : decode cL_law 674 = .ok (.iadd, 1) := by decide +kernel
theorem dL_law_675 : decode cL_law 675 = .ok (.iaload, 1) := by decide +kernel
theorem dL_law_676 : decode cL_law 676 = .ok (.invokevirtual 93, 3) := by decide +kernel
theorem dL_law_679 : decode cL_law 679 = .ok (.aload_n 2, 1) := by decide +kernel
theorem dL_law_680 : decode cL_law 680 = .ok (.aload_n 0, 1) := by decide +kernel
theorem dL_law_681 : decode cL_law 681 = .ok (.iload_n 3, 1) := by decide +kernel
theorem dL_law_682 : decode cL_law 682 = .ok (.iconst 1, 1) := by decide +kernel
theorem dL_law_683 : decode cL_law 683 = .ok (.iadd, 1) := by decide +kernel
theorem dL_law_684 : decode cL_law 684 = .ok (.iaload, 1) := by decide +kernel
theorem dL_law_685 : decode cL_law 685 = .ok (.aload_n 0, 1) := by decide +kernel
theorem dL_law_686 : decode cL_law 686 = .ok (.iload_n 3, 1) := by decide +kernel
theorem dL_law_687 : decode cL_law 687 = .ok (.iconst 2, 1) := by decide +kernel
theorem dL_law_688 : decode cL_law 688 = .ok (.iadd, 1) := by decide +kernel
theorem dL_law_689 : decode cL_law 689 = .ok (.iaload, 1) := by decide +kernel
theorem dL_law_690 : decode cL_law 690 = .ok (.invokevirtual 96, 3) := by decide +kernel
theorem dL_law_693 : decode cL_law 693 = .ok (.if_icmp .eq 274, 3) := by decide +kernel
theorem dL_law_696 : decode cL_law 696 = .ok (.iconst 0, 1) := by decide +kernel
theorem dL_law_697 : decode cL_law 697 = .ok (.ireturn, 1) := by decide +kernel
theorem dL_law_698 : decode cL_law 698 = .ok (.aload_n 1, 1) := by decide +kernel
theorem dL_law_699 : decode cL_law 699 = .ok (.aload_n 0, 1) := by decide +kernel
theorem dL_law_700 : decode cL_law 700 = .ok (.iload_n 3, 1) := by decide +kernel
theorem dL_law_701 : decode cL_law 701 = .ok (.iconst 1, 1) := by decide +kernel
theorem dL_law_702 : decode cL_law 702 = .ok (.iadd, 1) := by decide +kernel
theorem dL_law_703 : decode cL_law 703 = .ok (.iaload, 1) := by decide +kernel
theorem dL_law_704 : decode cL_law 704 = .ok (.aload_n 0, 1) := by decide +kernel
theorem dL_law_705 : decode cL_law 705 = .ok (.iload_n 3, 1) := by decide +kernel
theorem dL_law_706 : decode cL_law 706 = .ok (.iconst 2, 1) := by decide +kernel
theorem dL_law_707 : decode cL_law 707 = .ok (.iadd, 1) := by decide +kernel
theorem dL_law_708 : decode cL_law 708 = .ok (.iaload, 1) := by decide +kernel
theorem dL_law_709 : decode cL_law 709 = .ok (.invokevirtual 97, 3) := by decide +kernel
theorem dL_law_712 : decode cL_law 712 = .ok (.aload_n 2, 1) := by decide +kernel
theorem dL_law_713 : decode cL_law 713 = .ok (.aload_n 0, 1) := by decide +kernel
theorem dL_law_714 : decode cL_law 714 = .ok (.iload_n 3, 1) := by decide +kernel
theorem dL_law_715 : decode cL_law 715 = .ok (.iconst 1, 1) := by decide +kernel
theorem dL_law_716 : decode cL_law 716 = .ok (.iadd, 1) := by decide +kernel
theorem dL_law_717 : decode cL_law 717 = .ok (.iaload, 1) := by decide +kernel
theorem dL_law_718 : decode cL_law 718 = .ok (.aload_n 0, 1) := by decide +kernel
theorem dL_law_719 : decode cL_law 719 = .ok (.iload_n 3, 1) := by decide +kernel
theorem dL_law_720 : decode cL_law 720 = .ok (.iconst 2, 1) := by decide +kernel
theorem dL_law_721 : decode cL_law 721 = .ok (.iadd, 1) := by decide +kernel
theorem dL_law_722 : decode cL_law 722 = .ok (.iaload, 1) := by decide +kernel
theorem dL_law_723 : decode cL_law 723 = .ok (.invokevirtual 100, 3) := by decide +kernel
theorem dL_law_726 : decode cL_law 726 = .ok (.if_icmp .eq 241, 3) := by decide +kernel
theorem dL_law_729 : decode cL_law 729 = .ok (.iconst 0, 1) := by decide +kernel
theorem dL_law_730 : decode cL_law 730 = .ok (.ireturn, 1) := by decide +kernel
theorem dL_law_731 : decode cL_law 731 = .ok (.aload_n 1, 1) := by decide +kernel
theorem dL_law_732 : decode cL_law 732 = .ok (.aload_n 0, 1) := by decide +kernel
theorem dL_law_733 : decode cL_law 733 = .ok (.iload_n 3, 1) := by decide +kernel
theorem dL_law_734 : decode cL_law 734 = .ok (.iconst 1, 1) := by decide +kernel
theorem dL_law_735 : decode cL_law 735 = .ok (.iadd, 1) := by decide +kernel
theorem dL_law_736 : decode cL_law 736 = .ok (.iaload, 1) := by decide +kernel
theorem dL_law_737 : decode cL_law 737 = .ok (.invokevirtual 101, 3) := by decide +kernel
theorem dL_law_740 : decode cL_law 740 = .ok (.aload_n 2, 1) := by decide +kernel
theorem dL_law_741 : decode cL_law 741 = .ok (.aload_n 0, 1) := by decide +kernel
theorem dL_law_742 : decode cL_law 742 = .ok (.iload_n 3, 1) := by decide +kernel
theorem dL_law_743 : decode cL_law 743 = .ok (.iconst 1, 1) := by decide +kernel
theorem dL_law_744 : decode cL_law 744 = .ok (.iadd, 1) := by decide +kernel
theorem dL_law_745 : decode cL_law 745 = .ok (.iaload, 1) := by decide +kernel
theorem dL_law_746 : decode cL_law 746 = .ok (.invokevirtual 104, 3) := by decide +kernel
theorem dL_law_749 : decode cL_law 749 = .ok (.if_icmp .eq 218, 3) := by decide +kernel
theorem dL_law_752 : decode cL_law 752 = .ok (.iconst 0, 1) := by decide +kernel
theorem dL_law_753 : decode cL_law 753 = .ok (.ireturn, 1) := by decide +kernel
theorem dL_law_754 : decode cL_law 754 = .ok (.aload_n 1, 1) := by decide +kernel
theorem dL_law_755 : decode cL_law 755 = .ok (.aload_n 0, 1) := by decide +kernel
theorem dL_law_756 : decode cL_law 756 = .ok (.iload_n 3, 1) := by decide +kernel
theorem dL_law_757 : decode cL_law 757 = .ok (.iconst 1, 1) := by decide +kernel
theorem dL_law_758 : decode cL_law 758 = .ok (.iadd, 1) := by decide +kernel
theorem dL_law_759 : decode cL_law 759 = .ok (.iaload, 1) := by decide +kernel
theorem dL_law_760 : decode cL_law 760 = .ok (.invokevirtual 105, 3) := by decide +kernel
theorem dL_law_763 : decode cL_law 763 = .ok (.aload_n 2, 1) := by decide +kernel
theorem dL_law_764 : decode cL_law 764 = .ok (.aload_n 0, 1) := by decide +kernel
theorem dL_law_765 : decode cL_law 765 = .ok (.iload_n 3, 1) := by decide +kernel
theorem dL_law_766 : decode cL_law 766 = .ok (.iconst 1, 1) := by decide +kernel
theorem dL_law_767 : decode cL_law 767 = .ok (.iadd, 1) := by decide +kernel
theorem dL_law_768 : decode cL_law 768 = .ok (.iaload, 1) := by decide +kernel
theorem dL_law_769 : decode cL_law 769 = .ok (.invokevirtual 108, 3) := by decide +kernel
theorem dL_law_772 : decode cL_law 772 = .ok (.if_icmp .eq 195, 3) := by decide +kernel
theorem dL_law_775 : decode cL_law 775 = .ok (.iconst 0, 1) := by decide +kernel
theorem dL_law_776 : decode cL_law 776 = .ok (.ireturn, 1) := by decide +kernel
theorem dL_law_777 : decode cL_law 777 = .ok (.aload_n 1, 1) := by decide +kernel
theorem dL_law_778 : decode cL_law 778 = .ok (.aload_n 0, 1) := by decide +kernel
theorem dL_law_779 : decode cL_law 779 = .ok (.iload_n 3, 1) := by decide +kernel
theorem dL_law_780 : decode cL_law 780 = .ok (.iconst 1, 1) := by decide +kernel
theorem dL_law_781 : decode cL_law 781 = .ok (.iadd, 1) := by decide +kernel
theorem dL_law_782 : decode cL_law 782 = .ok (.iaload, 1) := by decide +kernel
theorem dL_law_783 : decode cL_law 783 = .ok (.invokevirtual 109, 3) := by decide +kernel
theorem dL_law_786 : decode cL_law 786 = .ok (.aload_n 2, 1) := by decide +kernel
theorem dL_law_787 : decode cL_law 787 = .ok (.aload_n 0, 1) := by decide +kernel
theorem dL_law_788 : decode cL_law 788 = .ok (.iload_n 3, 1) := by decide +kernel
theorem dL_law_789 : decode cL_law 789 = .ok (.iconst 1, 1) := by decide +kernel
theorem dL_law_790 : decode cL_law 790 = .ok (.iadd, 1) := by decide +kernel
theorem dL_law_791 : decode cL_law 791 = .ok (.iaload, 1) := by decide +kernel
theorem dL_law_792 : decode cL_law 792 = .ok (.invokevirtual 112, 3) := by decide +kernel
theorem dL_law_795 : decode cL_law 795 = .ok (.if_icmp .eq 172, 3) := by decide +kernel
theorem dL_law_798 : decode cL_law 798 = .ok (.iconst 0, 1) := by decide +kernel
theorem dL_law_799 : decode cL_law 799 = .ok (.ireturn, 1) := by decide +kernel
theorem dL_law_800 : decode cL_law 800 = .ok (.aload_n 1, 1) := by decide +kernel
theorem dL_law_801 : decode cL_law 801 = .ok (.aload_n 0, 1) := by decide +kernel
theorem dL_law_802 : decode cL_law 802 = .ok (.iload_n 3, 1) := by decide +kernel
theorem dL_law_803 : decode cL_law 803 = .ok (.iconst 1, 1) := by decide +kernel
theorem dL_law_804 : decode cL_law 804 = .ok (.iadd, 1) := by decide +kernel
theorem dL_law_805 : decode cL_law 805 = .ok (.iaload, 1) := by decide +kernel
theorem dL_law_806 : decode cL_law 806 = .ok (.invokevirtual 113, 3) := by decide +kernel
theorem dL_law_809 : decode cL_law 809 = .ok (.aload_n 2, 1) := by decide +kernel
theorem dL_law_810 : decode cL_law 810 = .ok (.aload_n 0, 1) := by decide +kernel
theorem dL_law_811 : decode cL_law 811 = .ok (.iload_n 3, 1) := by decide +kernel
theorem dL_law_812 : decode cL_law 812 = .ok (.iconst 1, 1) := by decide +kernel
theorem dL_law_813 : decode cL_law 813 = .ok (.iadd, 1) := by decide +kernel
theorem dL_law_814 : decode cL_law 814 = .ok (.iaload, 1) := by decide +kernel
theorem dL_law_815 : decode cL_law 815 = .ok (.invokevirtual 116, 3) := by decide +kernel
theorem dL_law_818 : decode cL_law 818 = .ok (.if_icmp .eq 149, 3) := by decide +kernel
theorem dL_law_821 : decode cL_law 821 = .ok (.iconst 0, 1) := by decide +kernel
theorem dL_law_822 : decode cL_law 822 = .ok (.ireturn, 1) := by decide +kernel
theorem dL_law_823 : decode cL_law 823 = .ok (.aload_n 1, 1) := by decide +kernel
theorem dL_law_824 : decode cL_law 824 = .ok (.aload_n 0, 1) := by decide +kernel
theorem dL_law_825 : decode cL_law 825 = .ok (.iload_n 3, 1) := by decide +kernel
theorem dL_law_826 : decode cL_law 826 = .ok (.iconst 1, 1) := by decide +kernel
theorem dL_law_827 : decode cL_law 827 = .ok (.iadd, 1) := by decide +kernel
theorem dL_law_828 : decode cL_law 828 = .ok (.iaload, 1) := by decide +kernel
theorem dL_law_829 : decode cL_law 829 = .ok (.aload_n 0, 1) := by decide +kernel
theorem dL_law_830 : decode cL_law 830 = .ok (.iload_n 3, 1) := by decide +kernel
theorem dL_law_831 : decode cL_law 831 = .ok (.iconst 2, 1) := by decide +kernel
theorem dL_law_832 : decode cL_law 832 = .ok (.iadd, 1) := by decide +kernel
theorem dL_law_833 : decode cL_law 833 = .ok (.iaload, 1) := by decide +kernel
theorem dL_law_834 : decode cL_law 834 = .ok (.invokevirtual 117, 3) := by decide +kernel
theorem dL_law_837 : decode cL_law 837 = .ok (.aload_n 2, 1) := by decide +kernel
theorem dL_law_838 : decode cL_law 838 = .ok (.aload_n 0, 1) := by decide +kernel
theorem dL_law_839 : decode cL_law 839 = .ok (.iload_n 3, 1) := by decide +kernel
theorem dL_law_840 : decode cL_law 840 = .ok (.iconst 1, 1) := by decide +kernel
theorem dL_law_841 : decode cL_law 841 = .ok (.iadd, 1) := by decide +kernel
theorem dL_law_842 : decode cL_law 842 = .ok (.iaload, 1) := by decide +kernel
theorem dL_law_843 : decode cL_law 843 = .ok (.aload_n 0, 1) := by decide +kernel
theorem dL_law_844 : decode cL_law 844 = .ok (.iload_n 3, 1) := by decide +kernel
theorem dL_law_845 : decode cL_law 845 = .ok (.iconst 2, 1) := by decide +kernel
theorem dL_law_846 : decode cL_law 846 = .ok (.iadd, 1) := by decide +kernel
theorem dL_law_847 : decode cL_law 847 = .ok (.iaload, 1) := by decide +kernel
theorem dL_law_848 : decode cL_law 848 = .ok (.invokevirtual 120, 3) := by decide +kernel
theorem dL_law_851 : decode cL_law 851 = .ok (.if_icmp .eq 116, 3) := by decide +kernel
theorem dL_law_854 : decode cL_law 854 = .ok (.iconst 0, 1) := by decide +kernel
theorem dL_law_855 : decode cL_law 855 = .ok (.ireturn, 1) := by decide +kernel
theorem dL_law_856 : decode cL_law 856 = .ok (.aload_n 1, 1) := by decide +kernel
theorem dL_law_857 : decode cL_law 857 = .ok (.aload_n 0, 1) := by decide +kernel
theorem dL_law_858 : decode cL_law 858 = .ok (.iload_n 3, 1) := by decide +kernel
theorem dL_law_859 : decode cL_law 859 = .ok (.iconst 1, 1) := by decide +kernel
theorem dL_law_860 : decode cL_law 860 = .ok (.iadd, 1) := by decide +kernel
theorem dL_law_861 : decode cL_law 861 = .ok (.iaload, 1) := by decide +kernel
theorem dL_law_862 : decode cL_law 862 = .ok (.invokevirtual 121, 3) := by decide +kernel
theorem dL_law_865 : decode cL_law 865 = .ok (.aload_n 2, 1) := by decide +kernel
theorem dL_law_866 : decode cL_law 866 = .ok (.aload_n 0, 1) := by decide +kernel
theorem dL_law_867 : decode cL_law 867 = .ok (.iload_n 3, 1) := by decide +kernel
theorem dL_law_868 : decode cL_law 868 = .ok (.iconst 1, 1) := by decide +kernel
theorem dL_law_869 : decode cL_law 869 = .ok (.iadd, 1) := by decide +kernel
theorem dL_law_870 : decode cL_law 870 = .ok (.iaload, 1) := by decide +kernel
theorem dL_law_871 : decode cL_law 871 = .ok (.invokevirtual 124, 3) := by decide +kernel
theorem dL_law_874 : decode cL_law 874 = .ok (.if_icmp .eq 93, 3) := by decide +kernel
theorem dL_law_877 : decode cL_law 877 = .ok (.iconst 0, 1) := by decide +kernel
theorem dL_law_878 : decode cL_law 878 = .ok (.ireturn, 1) := by decide +kernel
theorem dL_law_879 : decode cL_law 879 = .ok (.aload_n 1, 1) := by decide +kernel
theorem dL_law_880 : decode cL_law 880 = .ok (.aload_n 0, 1) := by decide +kernel
theorem dL_law_881 : decode cL_law 881 = .ok (.iload_n 3, 1) := by decide +kernel
theorem dL_law_882 : decode cL_law 882 = .ok (.iconst 1, 1) := by decide +kernel
theorem dL_law_883 : decode cL_law 883 = .ok (.iadd, 1) := by decide +kernel
theorem dL_law_884 : decode cL_law 884 = .ok (.iaload, 1) := by decide +kernel
theorem dL_law_885 : decode cL_law 885 = .ok (.aload_n 0, 1) := by decide +kernel
theorem dL_law_886 : decode cL_law 886 = .ok (.iload_n 3, 1) := by decide +kernel
theorem dL_law_887 : decode cL_law 887 = .ok (.iconst 2, 1) := by decide +kernel
theorem dL_law_888 : decode cL_law 888 = .ok (.iadd, 1) := by decide +kernel
theorem dL_law_889 : decode cL_law 889 = .ok (.iaload, 1) := by decide +kernel
theorem dL_law_890 : decode cL_law 890 = .ok (.invokevirtual 125, 3) := by decide +kernel
theorem dL_law_893 : decode cL_law 893 = .ok (.aload_n 2, 1) := by decide +kernel
theorem dL_law_894 : decode cL_law 894 = .ok (.aload_n 0, 1) := by decide +kernel
theorem dL_law_895 : decode cL_law 895 = .ok (.iload_n 3, 1) := by decide +kernel
theorem dL_law_896 : decode cL_law 896 = .ok (.iconst 1, 1) := by decide +kernel
theorem dL_law_897 : decode cL_law 897 = .ok (.iadd, 1) := by decide +kernel
theorem dL_law_898 : decode cL_law 898 = .ok (.iaload, 1) := by decide +kernel
theorem dL_law_899 : decode cL_law 899 = .ok (.aload_n 0, 1) := by decide +kernel
theorem dL_law_900 : decode cL_law 900 = .ok (.iload_n 3, 1) := by decide +kernel
theorem dL_law_901 : decode cL_law 901 = .ok (.iconst 2, 1) := by decide +kernel
theorem dL_law_902 : decode cL_law 902 = .ok (.iadd, 1) := by decide +kernel
theorem dL_law_903 : decode cL_law 903 = .ok (.iaload, 1) := by decide +kernel
theorem dL_law_904 : decode cL_law 904 = .ok (.invokevirtual 128, 3) := by decide +kernel
theorem dL_law_907 : decode cL_law 907 = .ok (.if_icmp .eq 60, 3) := by decide +kernel
theorem dL_law_910 : decode cL_law 910 = .ok (.iconst 0, 1) := by decide +kernel
theorem dL_law_911 : decode cL_law 911 = .ok (.ireturn, 1) := by decide +kernel
theorem dL_law_912 : decode cL_law 912 = .ok (.aload_n 1, 1) := by decide +kernel
theorem dL_law_913 : decode cL_law 913 = .ok (.invokevirtual 129, 3) := by decide +kernel
theorem dL_law_916 : decode cL_law 916 = .ok (.dstore 4, 2) := by decide +kernel
theorem dL_law_918 : decode cL_law 918 = .ok (.aload_n 2, 1) := by decide +kernel
theorem dL_law_919 : decode cL_law 919 = .ok (.invokevirtual 133, 3) := by decide +kernel
theorem dL_law_922 : decode cL_law 922 = .ok (.dstore 6, 2) := by decide +kernel
theorem dL_law_924 : decode cL_law 924 = .ok (.dload 4, 2) := by decide +kernel
theorem dL_law_926 : decode cL_law 926 = .ok (.dload 6, 2) := by decide +kernel
theorem dL_law_928 : decode cL_law 928 = .ok (.dcmp .l, 1) := by decide +kernel
theorem dL_law_929 : decode cL_law 929 = .ok (.ifCond .eq 21, 3) := by decide +kernel
theorem dL_law_932 : decode cL_law 932 = .ok (.dload 4, 2) := by decide +kernel
theorem dL_law_934 : decode cL_law 934 = .ok (.dload 4, 2) := by decide +kernel
theorem dL_law_936 : decode cL_law 936 = .ok (.dcmp .l, 1) := by decide +kernel
theorem dL_law_937 : decode cL_law 937 = .ok (.ifCond .eq 11, 3) := by decide +kernel
theorem dL_law_940 : decode cL_law 940 = .ok (.dload 6, 2) := by decide +kernel
theorem dL_law_942 : decode cL_law 942 = .ok (.dload 6, 2) := by decide +kernel
theorem dL_law_944 : decode cL_law 944 = .ok (.dcmp .l, 1) := by decide +kernel
theorem dL_law_945 : decode cL_law 945 = .ok (.ifCond .ne 5, 3) := by decide +kernel
theorem dL_law_948 : decode cL_law 948 = .ok (.iconst 0, 1) := by decide +kernel
theorem dL_law_949 : decode cL_law 949 = .ok (.ireturn, 1) := by decide +kernel
theorem dL_law_950 : decode cL_law 950 = .ok (.goto 17, 3) := by decide +kernel
theorem dL_law_953 : decode cL_law 953 = .ok (.aload_n 1, 1) := by decide +kernel
theorem dL_law_954 : decode cL_law 954 = .ok (.invokevirtual 134, 3) := by decide +kernel
theorem dL_law_957 : decode cL_law 957 = .ok (.aload_n 2, 1) := by decide +kernel
theorem dL_law_958 : decode cL_law 958 = .ok (.invokevirtual 138, 3) := by decide +kernel
theorem dL_law_961 : decode cL_law 961 = .ok (.lcmp, 1) := by decide +kernel
theorem dL_law_962 : decode cL_law 962 = .ok (.ifCond .eq 5, 3) := by decide +kernel
theorem dL_law_965 : decode cL_law 965 = .ok (.iconst 0, 1) := by decide +kernel
theorem dL_law_966 : decode cL_law 966 = .ok (.ireturn, 1) := by decide +kernel
theorem dL_law_967 : decode cL_law 967 = .ok (.iinc 3 4, 3) := by decide +kernel
theorem dL_law_970 : decode cL_law 970 = .ok (.goto (-952), 3) := by decide +kernel
theorem dL_law_973 : decode cL_law 973 = .ok (.iconst 1, 1) := by decide +kernel
theorem dL_law_974 : decode cL_law 974 = .ok (.ireturn, 1) := by decide +kernel
