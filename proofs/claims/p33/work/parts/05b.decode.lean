theorem dX5_init_0 : decode cX5_init 0 = .ok (.aload_n 0, 1) := by decide +kernel
theorem dX5_init_1 : decode cX5_init 1 = .ok (.invokespecial 3, 3) := by decide +kernel
theorem dX5_init_4 : decode cX5_init 4 = .ok (.aload_n 0, 1) := by decide +kernel
theorem dX5_init_5 : decode cX5_init 5 = .ok (.new 9, 3) := by decide +kernel
theorem dX5_init_8 : decode cX5_init 8 = .ok (.dup, 1) := by decide +kernel
theorem dX5_init_9 : decode cX5_init 9 = .ok (.invokespecial 11, 3) := by decide +kernel
theorem dX5_init_12 : decode cX5_init 12 = .ok (.putfield 12, 3) := by decide +kernel
theorem dX5_init_15 : decode cX5_init 15 = .ok (.aload_n 0, 1) := by decide +kernel
theorem dX5_init_16 : decode cX5_init 16 = .ok (.new 18, 3) := by decide +kernel
theorem dX5_init_19 : decode cX5_init 19 = .ok (.dup, 1) := by decide +kernel
theorem dX5_init_20 : decode cX5_init 20 = .ok (.invokespecial 20, 3) := by decide +kernel
theorem dX5_init_23 : decode cX5_init 23 = .ok (.putfield 21, 3) := by decide +kernel
theorem dX5_init_26 : decode cX5_init 26 = .ok (.aload_n 0, 1) := by decide +kernel
theorem dX5_init_27 : decode cX5_init 27 = .ok (.new 25, 3) := by decide +kernel
theorem dX5_init_30 : decode cX5_init 30 = .ok (.dup, 1) := by decide +kernel
theorem dX5_init_31 : decode cX5_init 31 = .ok (.invokespecial 27, 3) := by decide +kernel
theorem dX5_init_34 : decode cX5_init 34 = .ok (.putfield 28, 3) := by decide +kernel
theorem dX5_init_37 : decode cX5_init 37 = .ok (.aload_n 0, 1) := by decide +kernel
theorem dX5_init_38 : decode cX5_init 38 = .ok (.iconst 4, 1) := by decide +kernel
theorem dX5_init_39 : decode cX5_init 39 = .ok (.newarray .int, 2) := by decide +kernel
theorem dX5_init_41 : decode cX5_init 41 = .ok (.putfield 32, 3) := by decide +kernel
theorem dX5_init_44 : decode cX5_init 44 = .ok (.aload_n 0, 1) := by decide +kernel
theorem dX5_init_45 : decode cX5_init 45 = .ok (.bipush 8, 2) := by decide +kernel
theorem dX5_init_47 : decode cX5_init 47 = .ok (.newarray .int, 2) := by decide +kernel
theorem dX5_init_49 : decode cX5_init 49 = .ok (.putfield 36, 3) := by decide +kernel
theorem dX5_init_52 : decode cX5_init 52 = .ok (.aload_n 0, 1) := by decide +kernel
theorem dX5_init_53 : decode cX5_init 53 = .ok (.iconst 3, 1) := by decide +kernel
theorem dX5_init_54 : decode cX5_init 54 = .ok (.newarray .int, 2) := by decide +kernel
theorem dX5_init_56 : decode cX5_init 56 = .ok (.putfield 39, 3) := by decide +kernel
theorem dX5_init_59 : decode cX5_init 59 = .ok (.aload_n 0, 1) := by decide +kernel
theorem dX5_init_60 : decode cX5_init 60 = .ok (.iconst 3, 1) := by decide +kernel
theorem dX5_init_61 : decode cX5_init 61 = .ok (.newarray .int, 2) := by decide +kernel
theorem dX5_init_63 : decode cX5_init 63 = .ok (.putfield 42, 3) := by decide +kernel
theorem dX5_init_66 : decode cX5_init 66 = .ok (.aload_n 0, 1) := by decide +kernel
theorem dX5_init_67 : decode cX5_init 67 = .ok (.bipush 48, 2) := by decide +kernel
theorem dX5_init_69 : decode cX5_init 69 = .ok (.newarray .int, 2) := by decide +kernel
theorem dX5_init_71 : decode cX5_init 71 = .ok (.putfield 45, 3) := by decide +kernel
theorem dX5_init_74 : decode cX5_init 74 = .ok (.aload_n 0, 1) := by decide +kernel
theorem dX5_init_75 : decode cX5_init 75 = .ok (.iconst 1, 1) := by decide +kernel
theorem dX5_init_76 : decode cX5_init 76 = .ok (.putfield 48, 3) := by decide +kernel
theorem dX5_init_79 : decode cX5_init 79 = .ok (.aload_n 0, 1) := by decide +kernel
theorem dX5_init_80 : decode cX5_init 80 = .ok (.iconst 0, 1) := by decide +kernel
theorem dX5_init_81 : decode cX5_init 81 = .ok (.putfield 52, 3) := by decide +kernel
theorem dX5_init_84 : decode cX5_init 84 = .ok (.aload_n 0, 1) := by decide +kernel
theorem dX5_init_85 : decode cX5_init 85 = .ok (.iconst 1, 1) := by decide +kernel
theorem dX5_init_86 : decode cX5_init 86 = .ok (.putfield 55, 3) := by decide +kernel
theorem dX5_init_89 : decode cX5_init 89 = .ok (.aload_n 0, 1) := by decide +kernel
theorem dX5_init_90 : decode cX5_init 90 = .ok (.getfield 32, 3) := by decide +kernel
theorem dX5_init_93 : decode cX5_init 93 = .ok (.iconst 0, 1) := by decide +kernel
theorem dX5_init_94 : decode cX5_init 94 = .ok (.iconst 5, 1) := by decide +kernel
theorem dX5_init_95 : decode cX5_init 95 = .ok (.iastore, 1) := by decide +kernel
theorem dX5_init_96 : decode cX5_init 96 = .ok (.aload_n 0, 1) := by decide +kernel
theorem dX5_init_97 : decode cX5_init 97 = .ok (.getfield 32, 3) := by decide +kernel
theorem dX5_init_100 : decode cX5_init 100 = .ok (.iconst 1, 1) := by decide +kernel
theorem dX5_init_101 : decode cX5_init 101 = .ok (.bipush 40, 2) := by decide +kernel
theorem dX5_init_103 : decode cX5_init 103 = .ok (.iastore, 1) := by decide +kernel
theorem dX5_init_104 : decode cX5_init 104 = .ok (.aload_n 0, 1) := by decide +kernel
theorem dX5_init_105 : decode cX5_init 105 = .ok (.getfield 32, 3) := by decide +kernel
theorem dX5_init_108 : decode cX5_init 108 = .ok (.iconst 2, 1) := by decide +kernel
theorem dX5_init_109 : decode cX5_init 109 = .ok (.bipush 50, 2) := by decide +kernel
theorem dX5_init_111 : decode cX5_init 111 = .ok (.iastore, 1) := by decide +kernel
theorem dX5_init_112 : decode cX5_init 112 = .ok (.aload_n 0, 1) := by decide +kernel
theorem dX5_init_113 : decode cX5_init 113 = .ok (.getfield 32, 3) := by decide +kernel
theorem dX5_init_116 : decode cX5_init 116 = .ok (.iconst 3, 1) := by decide +kernel
theorem dX5_init_117 : decode cX5_init 117 = .ok (.bipush 50, 2) := by decide +kernel
theorem dX5_init_119 : decode cX5_init 119 = .ok (.iastore, 1) := by decide +kernel
theorem dX5_init_120 : decode cX5_init 120 = .ok (.aload_n 0, 1) := by decide +kernel
theorem dX5_init_121 : decode cX5_init 121 = .ok (.getfield 45, 3) := by decide +kernel
theorem dX5_init_124 : decode cX5_init 124 = .ok (.iconst 0, 1) := by decide +kernel
theorem dX5_init_125 : decode cX5_init 125 = .ok (.bipush 20, 2) := by decide +kernel
theorem dX5_init_127 : decode cX5_init 127 = .ok (.iastore, 1) := by decide +kernel
theorem dX5_init_128 : decode cX5_init 128 = .ok (.return_, 1) := by decide +kernel
theorem dX5_copy_0 : decode cX5_copy 0 = .ok (.aload_n 0, 1) := by decide +kernel
theorem dX5_copy_1 : decode cX5_copy 1 = .ok (.getfield 12, 3) := by decide +kernel
theorem dX5_copy_4 : decode cX5_copy 4 = .ok (.aload_n 1, 1) := by decide +kernel
theorem dX5_copy_5 : decode cX5_copy 5 = .ok (.getfield 12, 3) := by decide +kernel
theorem dX5_copy_8 : decode cX5_copy 8 = .ok (.invokevirtual 58, 3) := by decide +kernel
theorem dX5_copy_11 : decode cX5_copy 11 = .ok (.aload_n 0, 1) := by decide +kernel
theorem dX5_copy_12 : decode cX5_copy 12 = .ok (.getfield 21, 3) := by decide +kernel
theorem dX5_copy_15 : decode cX5_copy 15 = .ok (.aload_n 1, 1) := by decide +kernel
theorem dX5_copy_16 : decode cX5_copy 16 = .ok (.getfield 21, 3) := by decide +kernel
theorem dX5_copy_19 : decode cX5_copy 19 = .ok (.invokevirtual 62, 3) := by decide +kernel
theorem dX5_copy_22 : decode cX5_copy 22 = .ok (.aload_n 0, 1) := by decide +kernel
theorem dX5_copy_23 : decode cX5_copy 23 = .ok (.getfield 28, 3) := by decide +kernel
theorem dX5_copy_26 : decode cX5_copy 26 = .ok (.aload_n 1, 1) := by decide +kernel
theorem dX5_copy_27 : decode cX5_copy 27 = .ok (.getfield 28, 3) := by decide +kernel
theorem dX5_copy_30 : decode cX5_copy 30 = .ok (.invokevirtual 65, 3) := by decide +kernel
theorem dX5_copy_33 : decode cX5_copy 33 = .ok (.aload_n 1, 1) := by decide +kernel
theorem dX5_copy_34 : decode cX5_copy 34 = .ok (.getfield 32, 3) := by decide +kernel
theorem dX5_copy_37 : decode cX5_copy 37 = .ok (.iconst 0, 1) := by decide +kernel
theorem dX5_copy_38 : decode cX5_copy 38 = .ok (.aload_n 0, 1) := by decide +kernel
theorem dX5_copy_39 : decode cX5_copy 39 = .ok (.getfield 32, 3) := by decide +kernel
theorem dX5_copy_42 : decode cX5_copy 42 = .ok (.iconst 0, 1) := by decide +kernel
theorem dX5_copy_43 : decode cX5_copy 43 = .ok (.iconst 4, 1) := by decide +kernel
theorem dX5_copy_44 : decode cX5_copy 44 = .ok (.invokestatic 68, 3) := by decide +kernel
theorem dX5_copy_47 : decode cX5_copy 47 = .ok (.aload_n 1, 1) := by decide +kernel
theorem dX5_copy_48 : decode cX5_copy 48 = .ok (.getfield 36, 3) := by decide +kernel
theorem dX5_copy_51 : decode cX5_copy 51 = .ok (.iconst 0, 1) := by decide +kernel
theorem dX5_copy_52 : decode cX5_copy 52 = .ok (.aload_n 0, 1) := by decide +kernel
theorem dX5_copy_53 : decode cX5_copy 53 = .ok (.getfield 36, 3) := by decide +kernel
theorem dX5_copy_56 : decode cX5_copy 56 = .ok (.iconst 0, 1) := by decide +kernel
theorem dX5_copy_57 : decode cX5_copy 57 = .ok (.bipush 8, 2) := by decide +kernel
theorem dX5_copy_59 : decode cX5_copy 59 = .ok (.invokestatic 68, 3) := by decide +kernel
theorem dX5_copy_62 : decode cX5_copy 62 = .ok (.aload_n 1, 1) := by decide +kernel
theorem dX5_copy_63 : decode cX5_copy 63 = .ok (.getfield 39, 3) := by decide +kernel
theorem dX5_copy_66 : decode cX5_copy 66 = .ok (.iconst 0, 1) := by decide +kernel
theorem dX5_copy_67 : decode cX5_copy 67 = .ok (.aload_n 0, 1) := by decide +kernel
theorem dX5_copy_68 : decode cX5_copy 68 = .ok (.getfield 39, 3) := by decide +kernel
theorem dX5_copy_71 : decode cX5_copy 71 = .ok (.iconst 0, 1) := by decide +kernel
theorem dX5_copy_72 : decode cX5_copy 72 = .ok (.iconst 3, 1) := by decide +kernel
theorem dX5_copy_73 : decode cX5_copy 73 = .ok (.invokestatic 68, 3) := by decide +kernel
theorem dX5_copy_76 : decode cX5_copy 76 = .ok (.aload_n 1, 1) := by decide +kernel
theorem dX5_copy_77 : decode cX5_copy 77 = .ok (.getfield 42, 3) := by decide +kernel
theorem dX5_copy_80 : decode cX5_copy 80 = .ok (.iconst 0, 1) := by decide +kernel
theorem dX5_copy_81 : decode cX5_copy 81 = .ok (.aload_n 0, 1) := by decide +kernel
theorem dX5_copy_82 : decode cX5_copy 82 = .ok (.getfield 42, 3) := by decide +kernel
theorem dX5_copy_85 : decode cX5_copy 85 = .ok (.iconst 0, 1) := by decide +kernel
theorem dX5_copy_86 : decode cX5_copy 86 = .ok (.iconst 3, 1) := by decide +kernel
theorem dX5_copy_87 : decode cX5_copy 87 = .ok (.invokestatic 68, 3) := by decide +kernel
theorem dX5_copy_90 : decode cX5_copy 90 = .ok (.aload_n 0, 1) := by decide +kernel
theorem dX5_copy_91 : decode cX5_copy 91 = .ok (.aload_n 1, 1) := by decide +kernel
theorem dX5_copy_92 : decode cX5_copy 92 = .ok (.getfield 45, 3) := by decide +kernel
theorem dX5_copy_95 : decode cX5_copy 95 = .ok (.aload_n 1, 1) := by decide +kernel
theorem dX5_copy_96 : decode cX5_copy 96 = .ok (.getfield 48, 3) := by decide +kernel
theorem dX5_copy_99 : decode cX5_copy 99 = .ok (.invokevirtual 74, 3) := by decide +kernel
theorem dX5_copy_102 : decode cX5_copy 102 = .ok (.aload_n 0, 1) := by decide +kernel
theorem dX5_copy_103 : decode cX5_copy 103 = .ok (.aload_n 1, 1) := by decide +kernel
theorem dX5_copy_104 : decode cX5_copy 104 = .ok (.getfield 52, 3) := by decide +kernel
theorem dX5_copy_107 : decode cX5_copy 107 = .ok (.putfield 52, 3) := by decide +kernel
theorem dX5_copy_110 : decode cX5_copy 110 = .ok (.aload_n 0, 1) := by decide +kernel
theorem dX5_copy_111 : decode cX5_copy 111 = .ok (.aload_n 1, 1) := by decide +kernel
theorem dX5_copy_112 : decode cX5_copy 112 = .ok (.getfield 55, 3) := by decide +kernel
theorem dX5_copy_115 : decode cX5_copy 115 = .ok (.putfield 55, 3) := by decide +kernel
theorem dX5_copy_118 : decode cX5_copy 118 = .ok (.return_, 1) := by decide +kernel
theorem dX5_takeList_0 : decode cX5_takeList 0 = .ok (.aload_n 1, 1) := by decide +kernel
theorem dX5_takeList_1 : decode cX5_takeList 1 = .ok (.iconst 0, 1) := by decide +kernel
theorem dX5_takeList_2 : decode cX5_takeList 2 = .ok (.aload_n 0, 1) := by decide +kernel
theorem dX5_takeList_3 : decode cX5_takeList 3 = .ok (.getfield 45, 3) := by decide +kernel
theorem dX5_takeList_6 : decode cX5_takeList 6 = .ok (.iconst 0, 1) := by decide +kernel
theorem dX5_takeList_7 : decode cX5_takeList 7 = .ok (.bipush 48, 2) := by decide +kernel
theorem dX5_takeList_9 : decode cX5_takeList 9 = .ok (.invokestatic 68, 3) := by decide +kernel
theorem dX5_takeList_12 : decode cX5_takeList 12 = .ok (.aload_n 0, 1) := by decide +kernel
theorem dX5_takeList_13 : decode cX5_takeList 13 = .ok (.iload_n 2, 1) := by decide +kernel
theorem dX5_takeList_14 : decode cX5_takeList 14 = .ok (.putfield 48, 3) := by decide +kernel
theorem dX5_takeList_17 : decode cX5_takeList 17 = .ok (.return_, 1) := by decide +kernel
theorem dX5_supplyOf_0 : decode cX5_supplyOf 0 = .ok (.aload_n 0, 1) := by decide +kernel
theorem dX5_supplyOf_1 : decode cX5_supplyOf 1 = .ok (.getfield 48, 3) := by decide +kernel
theorem dX5_supplyOf_4 : decode cX5_supplyOf 4 = .ok (.ifCond .le 19, 3) := by decide +kernel
theorem dX5_supplyOf_7 : decode cX5_supplyOf 7 = .ok (.aload_n 0, 1) := by decide +kernel
theorem dX5_supplyOf_8 : decode cX5_supplyOf 8 = .ok (.getfield 45, 3) := by decide +kernel
theorem dX5_supplyOf_11 : decode cX5_supplyOf 11 = .ok (.iload_n 1, 1) := by decide +kernel
theorem dX5_supplyOf_12 : decode cX5_supplyOf 12 = .ok (.aload_n 0, 1) := by decide +kernel
theorem dX5_supplyOf_13 : decode cX5_supplyOf 13 = .ok (.getfield 48, 3) := by decide +kernel
theorem dX5_supplyOf_16 : decode cX5_supplyOf 16 = .ok (.invokestatic 78, 3) := by decide +kernel
theorem dX5_supplyOf_19 : decode cX5_supplyOf 19 = .ok (.iaload, 1) := by decide +kernel
theorem dX5_supplyOf_20 : decode cX5_supplyOf 20 = .ok (.goto 4, 3) := by decide +kernel
theorem dX5_supplyOf_23 : decode cX5_supplyOf 23 = .ok (.iconst 0, 1) := by decide +kernel
theorem dX5_supplyOf_24 : decode cX5_supplyOf 24 = .ok (.ireturn, 1) := by decide +kernel
theorem dX5_partForDebt_0 : decode cX5_partForDebt 0 = .ok (.aload_n 0, 1) := by decide +kernel
theorem dX5_partForDebt_1 : decode cX5_partForDebt 1 = .ok (.getfield 12, 3) := by decide +kernel
theorem dX5_partForDebt_4 : decode cX5_partForDebt 4 = .ok (.getfield 84, 3) := by decide +kernel
theorem dX5_partForDebt_7 : decode cX5_partForDebt 7 = .ok (.iload_n 1, 1) := by decide +kernel
theorem dX5_partForDebt_8 : decode cX5_partForDebt 8 = .ok (.iaload, 1) := by decide +kernel
theorem dX5_partForDebt_9 : decode cX5_partForDebt 9 = .ok (.iload_n 2, 1) := by decide +kernel
theorem dX5_partForDebt_10 : decode cX5_partForDebt 10 = .ok (.aload_n 0, 1) := by decide +kernel
theorem dX5_partForDebt_11 : decode cX5_partForDebt 11 = .ok (.getfield 32, 3) := by decide +kernel
theorem dX5_partForDebt_14 : decode cX5_partForDebt 14 = .ok (.iconst 1, 1) := by decide +kernel
theorem dX5_partForDebt_15 : decode cX5_partForDebt 15 = .ok (.iaload, 1) := by decide +kernel
theorem dX5_partForDebt_16 : decode cX5_partForDebt 16 = .ok (.imul, 1) := by decide +kernel
theorem dX5_partForDebt_17 : decode cX5_partForDebt 17 = .ok (.bipush 100, 2) := by decide +kernel
theorem dX5_partForDebt_19 : decode cX5_partForDebt 19 = .ok (.idiv, 1) := by decide +kernel
theorem dX5_partForDebt_20 : decode cX5_partForDebt 20 = .ok (.invokestatic 87, 3) := by decide +kernel
theorem dX5_partForDebt_23 : decode cX5_partForDebt 23 = .ok (.ireturn, 1) := by decide +kernel
theorem dX5_partForLoans_0 : decode cX5_partForLoans 0 = .ok (.iload_n 2, 1) := by decide +kernel
theorem dX5_partForLoans_1 : decode cX5_partForLoans 1 = .ok (.aload_n 0, 1) := by decide +kernel
theorem dX5_partForLoans_2 : decode cX5_partForLoans 2 = .ok (.iload_n 1, 1) := by decide +kernel
theorem dX5_partForLoans_3 : decode cX5_partForLoans 3 = .ok (.iload_n 2, 1) := by decide +kernel
theorem dX5_partForLoans_4 : decode cX5_partForLoans 4 = .ok (.invokevirtual 90, 3) := by decide +kernel
theorem dX5_partForLoans_7 : decode cX5_partForLoans 7 = .ok (.isub, 1) := by decide +kernel
theorem dX5_partForLoans_8 : decode cX5_partForLoans 8 = .ok (.istore_n 3, 1) := by decide +kernel
theorem dX5_partForLoans_9 : decode cX5_partForLoans 9 = .ok (.aload_n 0, 1) := by decide +kernel
theorem dX5_partForLoans_10 : decode cX5_partForLoans 10 = .ok (.getfield 21, 3) := by decide +kernel
theorem dX5_partForLoans_13 : decode cX5_partForLoans 13 = .ok (.iload_n 1, 1) := by decide +kernel
theorem dX5_partForLoans_14 : decode cX5_partForLoans 14 = .ok (.invokevirtual 93, 3) := by decide +kernel
theorem dX5_partForLoans_17 : decode cX5_partForLoans 17 = .ok (.iload_n 3, 1) := by decide +kernel
theorem dX5_partForLoans_18 : decode cX5_partForLoans 18 = .ok (.aload_n 0, 1) := by decide +kernel
theorem dX5_partForLoans_19 : decode cX5_partForLoans 19 = .ok (.getfield 32, 3) := by decide +kernel
theorem dX5_partForLoans_22 : decode cX5_partForLoans 22 = .ok (.iconst 2, 1) := by decide +kernel
theorem dX5_partForLoans_23 : decode cX5_partForLoans 23 = .ok (.iaload, 1) := by decide +kernel
theorem dX5_partForLoans_24 : decode cX5_partForLoans 24 = .ok (.imul, 1) := by decide +kernel
theorem dX5_partForLoans_25 : decode cX5_partForLoans 25 = .ok (.bipush 100, 2) := by decide +kernel
theorem dX5_partForLoans_27 : decode cX5_partForLoans 27 = .ok (.idiv, 1) := by decide +kernel
theorem dX5_partForLoans_28 : decode cX5_partForLoans 28 = .ok (.invokestatic 87, 3) := by decide +kernel
theorem dX5_partForLoans_31 : decode cX5_partForLoans 31 = .ok (.ireturn, 1) := by decide +kernel
theorem dX5_takeToken_0 : decode cX5_takeToken 0 = .ok (.aload_n 0, 1) := by decide +kernel
theorem dX5_takeToken_1 : decode cX5_takeToken 1 = .ok (.iload_n 1, 1) := by decide +kernel
theorem dX5_takeToken_2 : decode cX5_takeToken 2 = .ok (.iload_n 2, 1) := by decide +kernel
theorem dX5_takeToken_3 : decode cX5_takeToken 3 = .ok (.invokevirtual 90, 3) := by decide +kernel
theorem dX5_takeToken_6 : decode cX5_takeToken 6 = .ok (.istore_n 3, 1) := by decide +kernel
theorem dX5_takeToken_7 : decode cX5_takeToken 7 = .ok (.aload_n 0, 1) := by decide +kernel
theorem dX5_takeToken_8 : decode cX5_takeToken 8 = .ok (.iload_n 1, 1) := by decide +kernel
theorem dX5_takeToken_9 : decode cX5_takeToken 9 = .ok (.iload_n 2, 1) := by decide +kernel
theorem dX5_takeToken_10 : decode cX5_takeToken 10 = .ok (.invokevirtual 97, 3) := by decide +kernel
theorem dX5_takeToken_13 : decode cX5_takeToken 13 = .ok (.istore 4, 2) := by decide +kernel
theorem dX5_takeToken_15 : decode cX5_takeToken 15 = .ok (.aload_n 0, 1) := by decide +kernel
theorem dX5_takeToken_16 : decode cX5_takeToken 16 = .ok (.getfield 12, 3) := by decide +kernel
theorem dX5_takeToken_19 : decode cX5_takeToken 19 = .ok (.getfield 84, 3) := by decide +kernel
theorem dX5_takeToken_22 : decode cX5_takeToken 22 = .ok (.iload_n 1, 1) := by decide +kernel
theorem dX5_takeToken_23 : decode cX5_takeToken 23 = .ok (.dup2, 1) := by decide +kernel
theorem dX5_takeToken_24 : decode cX5_takeToken 24 = .ok (.iaload, 1) := by decide +kernel
theorem dX5_takeToken_25 : decode cX5_takeToken 25 = .ok (.iload_n 3, 1) := by decide +kernel
theorem dX5_takeToken_26 : decode cX5_takeToken 26 = .ok (.isub, 1) := by decide +kernel
theorem dX5_takeToken_27 : decode cX5_takeToken 27 = .ok (.iastore, 1) := by decide +kernel
theorem dX5_takeToken_28 : decode cX5_takeToken 28 = .ok (.aload_n 0, 1) := by decide +kernel
theorem dX5_takeToken_29 : decode cX5_takeToken 29 = .ok (.iload_n 1, 1) := by decide +kernel
theorem dX5_takeToken_30 : decode cX5_takeToken 30 = .ok (.iload 4, 2) := by decide +kernel
theorem dX5_takeToken_32 : decode cX5_takeToken 32 = .ok (.invokevirtual 100, 3) := by decide +kernel
theorem dX5_takeToken_35 : decode cX5_takeToken 35 = .ok (.aload_n 0, 1) := by decide +kernel
theorem dX5_takeToken_36 : decode cX5_takeToken 36 = .ok (.getfield 12, 3) := by decide +kernel
theorem dX5_takeToken_39 : decode cX5_takeToken 39 = .ok (.getfield 104, 3) := by decide +kernel
theorem dX5_takeToken_42 : decode cX5_takeToken 42 = .ok (.iload_n 1, 1) := by decide +kernel
theorem dX5_takeToken_43 : decode cX5_takeToken 43 = .ok (.dup2, 1) := by decide +kernel
theorem dX5_takeToken_44 : decode cX5_takeToken 44 = .ok (.iaload, 1) := by decide +kernel
theorem dX5_takeToken_45 : decode cX5_takeToken 45 = .ok (.iload_n 2, 1) := by decide +kernel
theorem dX5_takeToken_46 : decode cX5_takeToken 46 = .ok (.iload_n 3, 1) := by decide +kernel
theorem dX5_takeToken_47 : decode cX5_takeToken 47 = .ok (.isub, 1) := by decide +kernel
theorem dX5_takeToken_48 : decode cX5_takeToken 48 = .ok (.iload 4, 2) := by decide +kernel
theorem dX5_takeToken_50 : decode cX5_takeToken 50 = .ok (.isub, 1) := by decide +kernel
theorem dX5_takeToken_51 : decode cX5_takeToken 51 = .ok (.iadd, 1) := by decide +kernel
theorem dX5_takeToken_52 : decode cX5_takeToken 52 = .ok (.iastore, 1) := by decide +kernel
theorem dX5_takeToken_53 : decode cX5_takeToken 53 = .ok (.aload_n 0, 1) := by decide +kernel
theorem dX5_takeToken_54 : decode cX5_takeToken 54 = .ok (.getfield 36, 3) := by decide +kernel
theorem dX5_takeToken_57 : decode cX5_takeToken 57 = .ok (.bipush 6, 2) := by decide +kernel
theorem dX5_takeToken_59 : decode cX5_takeToken 59 = .ok (.dup2, 1) := by decide +kernel
theorem dX5_takeToken_60 : decode cX5_takeToken 60 = .ok (.iaload, 1) := by decide +kernel
theorem dX5_takeToken_61 : decode cX5_takeToken 61 = .ok (.iload_n 2, 1) := by decide +kernel
theorem dX5_takeToken_62 : decode cX5_takeToken 62 = .ok (.iadd, 1) := by decide +kernel
theorem dX5_takeToken_63 : decode cX5_takeToken 63 = .ok (.iastore, 1) := by decide +kernel
theorem dX5_takeToken_64 : decode cX5_takeToken 64 = .ok (.aload_n 0, 1) := by decide +kernel
theorem dX5_takeToken_65 : decode cX5_takeToken 65 = .ok (.getfield 36, 3) := by decide +kernel
theorem dX5_takeToken_68 : decode cX5_takeToken 68 = .ok (.bipush 7, 2) := by decide +kernel
theorem dX5_takeToken_70 : decode cX5_takeToken 70 = .ok (.dup2, 1) := by decide +kernel
theorem dX5_takeToken_71 : decode cX5_takeToken 71 = .ok (.iaload, 1) := by decide +kernel
theorem dX5_takeToken_72 : decode cX5_takeToken 72 = .ok (.iload_n 3, 1) := by decide +kernel
theorem dX5_takeToken_73 : decode cX5_takeToken 73 = .ok (.iadd, 1) := by decide +kernel
theorem dX5_takeToken_74 : decode cX5_takeToken 74 = .ok (.iastore, 1) := by decide +kernel
theorem dX5_takeToken_75 : decode cX5_takeToken 75 = .ok (.return_, 1) := by decide +kernel
theorem dX5_payLoans_0 : decode cX5_payLoans 0 = .ok (.iload_n 2, 1) := by decide +kernel
theorem dX5_payLoans_1 : decode cX5_payLoans 1 = .ok (.istore_n 3, 1) := by decide +kernel
theorem dX5_payLoans_2 : decode cX5_payLoans 2 = .ok (.iconst 0, 1) := by decide +kernel
theorem dX5_payLoans_3 : decode cX5_payLoans 3 = .ok (.istore 4, 2) := by decide +kernel
theorem dX5_payLoans_5 : decode cX5_payLoans 5 = .ok (.iload 4, 2) := by decide +kernel
theorem dX5_payLoans_7 : decode cX5_payLoans 7 = .ok (.aload_n 0, 1) := by decide +kernel
theorem dX5_payLoans_8 : decode cX5_payLoans 8 = .ok (.getfield 21, 3) := by decide +kernel
theorem dX5_payLoans_11 : decode cX5_payLoans 11 = .ok (.getfield 107, 3) := by decide +kernel
theorem dX5_payLoans_14 : decode cX5_payLoans 14 = .ok (.if_icmp .ge 82, 3) := by decide +kernel
theorem dX5_payLoans_17 : decode cX5_payLoans 17 = .ok (.aload_n 0, 1) := by decide +kernel
theorem dX5_payLoans_18 : decode cX5_payLoans 18 = .ok (.getfield 21, 3) := by decide +kernel
theorem dX5_payLoans_21 : decode cX5_payLoans 21 = .ok (.getfield 110, 3) := by decide +kernel
theorem dX5_payLoans_24 : decode cX5_payLoans 24 = .ok (.iload 4, 2) := by decide +kernel
theorem dX5_payLoans_26 : decode cX5_payLoans 26 = .ok (.iaload, 1) := by decide +kernel
theorem dX5_payLoans_27 : decode cX5_payLoans 27 = .ok (.iload_n 1, 1) := by decide +kernel
theorem dX5_payLoans_28 : decode cX5_payLoans 28 = .ok (.if_icmp .ne 62, 3) := by decide +kernel
theorem dX5_payLoans_31 : decode cX5_payLoans 31 = .ok (.iload_n 3, 1) := by decide +kernel
theorem dX5_payLoans_32 : decode cX5_payLoans 32 = .ok (.aload_n 0, 1) := by decide +kernel
theorem dX5_payLoans_33 : decode cX5_payLoans 33 = .ok (.getfield 21, 3) := by decide +kernel
theorem dX5_payLoans_36 : decode cX5_payLoans 36 = .ok (.getfield 113, 3) := by decide +kernel
theorem dX5_payLoans_39 : decode cX5_payLoans 39 = .ok (.iload 4, 2) := by decide +kernel
theorem dX5_payLoans_41 : decode cX5_payLoans 41 = .ok (.iaload, 1) := by decide +kernel
theorem dX5_payLoans_42 : decode cX5_payLoans 42 = .ok (.invokestatic 87, 3) := by decide +kernel
theorem dX5_payLoans_45 : decode cX5_payLoans 45 = .ok (.istore 5, 2) := by decide +kernel
theorem dX5_payLoans_47 : decode cX5_payLoans 47 = .ok (.aload_n 0, 1) := by decide +kernel
theorem dX5_payLoans_48 : decode cX5_payLoans 48 = .ok (.getfield 21, 3) := by decide +kernel
theorem dX5_payLoans_51 : decode cX5_payLoans 51 = .ok (.getfield 113, 3) := by decide +kernel
theorem dX5_payLoans_54 : decode cX5_payLoans 54 = .ok (.iload 4, 2) := by decide +kernel
theorem dX5_payLoans_56 : decode cX5_payLoans 56 = .ok (.dup2, 1) := by decide +kernel
theorem dX5_payLoans_57 : decode cX5_payLoans 57 = .ok (.iaload, 1) := by decide +kernel
theorem dX5_payLoans_58 : decode cX5_payLoans 58 = .ok (.iload 5, 2) := by decide +kernel
theorem dX5_payLoans_60 : decode cX5_payLoans 60 = .ok (.isub, 1) := by decide +kernel
theorem dX5_payLoans_61 : decode cX5_payLoans 61 = .ok (.iastore, 1) := by decide +kernel
theorem dX5_payLoans_62 : decode cX5_payLoans 62 = .ok (.aload_n 0, 1) := by decide +kernel
theorem dX5_payLoans_63 : decode cX5_payLoans 63 = .ok (.getfield 12, 3) := by decide +kernel
theorem dX5_payLoans_66 : decode cX5_payLoans 66 = .ok (.getfield 104, 3) := by decide +kernel
theorem dX5_payLoans_69 : decode cX5_payLoans 69 = .ok (.aload_n 0, 1) := by decide +kernel
theorem dX5_payLoans_70 : decode cX5_payLoans 70 = .ok (.getfield 21, 3) := by decide +kernel
theorem dX5_payLoans_73 : decode cX5_payLoans 73 = .ok (.getfield 116, 3) := by decide +kernel
theorem dX5_payLoans_76 : decode cX5_payLoans 76 = .ok (.iload 4, 2) := by decide +kernel
theorem dX5_payLoans_78 : decode cX5_payLoans 78 = .ok (.iaload, 1) := by decide +kernel
theorem dX5_payLoans_79 : decode cX5_payLoans 79 = .ok (.dup2, 1) := by decide +kernel
theorem dX5_payLoans_80 : decode cX5_payLoans 80 = .ok (.iaload, 1) := by decide +kernel
theorem dX5_payLoans_81 : decode cX5_payLoans 81 = .ok (.iload 5, 2) := by decide +kernel
theorem dX5_payLoans_83 : decode cX5_payLoans 83 = .ok (.iadd, 1) := by decide +kernel
theorem dX5_payLoans_84 : decode cX5_payLoans 84 = .ok (.iastore, 1) := by decide +kernel
theorem dX5_payLoans_85 : decode cX5_payLoans 85 = .ok (.iload_n 3, 1) := by decide +kernel
theorem dX5_payLoans_86 : decode cX5_payLoans 86 = .ok (.iload 5, 2) := by decide +kernel
theorem dX5_payLoans_88 : decode cX5_payLoans 88 = .ok (.isub, 1) := by decide +kernel
theorem dX5_payLoans_89 : decode cX5_payLoans 89 = .ok (.istore_n 3, 1) := by decide +kernel
theorem dX5_payLoans_90 : decode cX5_payLoans 90 = .ok (.iinc 4 1, 3) := by decide +kernel
theorem dX5_payLoans_93 : decode cX5_payLoans 93 = .ok (.goto (-88), 3) := by decide +kernel
theorem dX5_payLoans_96 : decode cX5_payLoans 96 = .ok (.aload_n 0, 1) := by decide +kernel
theorem dX5_payLoans_97 : decode cX5_payLoans 97 = .ok (.getfield 21, 3) := by decide +kernel
theorem dX5_payLoans_100 : decode cX5_payLoans 100 = .ok (.invokevirtual 119, 3) := by decide +kernel
theorem dX5_payLoans_103 : decode cX5_payLoans 103 = .ok (.return_, 1) := by decide +kernel
theorem dX5_passHours_0 : decode cX5_passHours 0 = .ok (.iconst 0, 1) := by decide +kernel
theorem dX5_passHours_1 : decode cX5_passHours 1 = .ok (.istore_n 2, 1) := by decide +kernel
theorem dX5_passHours_2 : decode cX5_passHours 2 = .ok (.iload_n 2, 1) := by decide +kernel
theorem dX5_passHours_3 : decode cX5_passHours 3 = .ok (.iload_n 1, 1) := by decide +kernel
theorem dX5_passHours_4 : decode cX5_passHours 4 = .ok (.if_icmp .ge 13, 3) := by decide +kernel
theorem dX5_passHours_7 : decode cX5_passHours 7 = .ok (.aload_n 0, 1) := by decide +kernel
theorem dX5_passHours_8 : decode cX5_passHours 8 = .ok (.invokevirtual 125, 3) := by decide +kernel
theorem dX5_passHours_11 : decode cX5_passHours 11 = .ok (.iinc 2 1, 3) := by decide +kernel
theorem dX5_passHours_14 : decode cX5_passHours 14 = .ok (.goto (-12), 3) := by decide +kernel
theorem dX5_passHours_17 : decode cX5_passHours 17 = .ok (.return_, 1) := by decide +kernel
theorem dX5_passHour_0 : decode cX5_passHour 0 = .ok (.aload_n 0, 1) := by decide +kernel
theorem dX5_passHour_1 : decode cX5_passHour 1 = .ok (.aload_n 0, 1) := by decide +kernel
theorem dX5_passHour_2 : decode cX5_passHour 2 = .ok (.getfield 52, 3) := by decide +kernel
theorem dX5_passHour_5 : decode cX5_passHour 5 = .ok (.invokevirtual 131, 3) := by decide +kernel
theorem dX5_passHour_8 : decode cX5_passHour 8 = .ok (.istore_n 1, 1) := by decide +kernel
theorem dX5_passHour_9 : decode cX5_passHour 9 = .ok (.iload_n 1, 1) := by decide +kernel
theorem dX5_passHour_10 : decode cX5_passHour 10 = .ok (.aload_n 0, 1) := by decide +kernel
theorem dX5_passHour_11 : decode cX5_passHour 11 = .ok (.getfield 28, 3) := by decide +kernel
theorem dX5_passHour_14 : decode cX5_passHour 14 = .ok (.invokevirtual 134, 3) := by decide +kernel
theorem dX5_passHour_17 : decode cX5_passHour 17 = .ok (.iadd, 1) := by decide +kernel
theorem dX5_passHour_18 : decode cX5_passHour 18 = .ok (.istore_n 2, 1) := by decide +kernel
theorem dX5_passHour_19 : decode cX5_passHour 19 = .ok (.aload_n 0, 1) := by decide +kernel
theorem dX5_passHour_20 : decode cX5_passHour 20 = .ok (.getfield 12, 3) := by decide +kernel
theorem dX5_passHour_23 : decode cX5_passHour 23 = .ok (.aload_n 0, 1) := by decide +kernel
theorem dX5_passHour_24 : decode cX5_passHour 24 = .ok (.getfield 32, 3) := by decide +kernel
theorem dX5_passHour_27 : decode cX5_passHour 27 = .ok (.iconst 0, 1) := by decide +kernel
theorem dX5_passHour_28 : decode cX5_passHour 28 = .ok (.iaload, 1) := by decide +kernel
theorem dX5_passHour_29 : decode cX5_passHour 29 = .ok (.invokevirtual 138, 3) := by decide +kernel
theorem dX5_passHour_32 : decode cX5_passHour 32 = .ok (.aload_n 0, 1) := by decide +kernel
theorem dX5_passHour_33 : decode cX5_passHour 33 = .ok (.iload_n 2, 1) := by decide +kernel
theorem dX5_passHour_34 : decode cX5_passHour 34 = .ok (.invokevirtual 142, 3) := by decide +kernel
theorem dX5_passHour_37 : decode cX5_passHour 37 = .ok (.aload_n 0, 1) := by decide +kernel
theorem dX5_passHour_38 : decode cX5_passHour 38 = .ok (.iload_n 2, 1) := by decide +kernel
theorem dX5_passHour_39 : decode cX5_passHour 39 = .ok (.invokevirtual 145, 3) := by decide +kernel
theorem dX5_passHour_42 : decode cX5_passHour 42 = .ok (.istore_n 3, 1) := by decide +kernel
theorem dX5_passHour_43 : decode cX5_passHour 43 = .ok (.aload_n 0, 1) := by decide +kernel
theorem dX5_passHour_44 : decode cX5_passHour 44 = .ok (.getfield 36, 3) := by decide +kernel
theorem dX5_passHour_47 : decode cX5_passHour 47 = .ok (.iconst 0, 1) := by decide +kernel
theorem dX5_passHour_48 : decode cX5_passHour 48 = .ok (.dup2, 1) := by decide +kernel
theorem dX5_passHour_49 : decode cX5_passHour 49 = .ok (.iaload, 1) := by decide +kernel
theorem dX5_passHour_50 : decode cX5_passHour 50 = .ok (.iload_n 1, 1) := by decide +kernel
theorem dX5_passHour_51 : decode cX5_passHour 51 = .ok (.iadd, 1) := by decide +kernel
theorem dX5_passHour_52 : decode cX5_passHour 52 = .ok (.iastore, 1) := by decide +kernel
theorem dX5_passHour_53 : decode cX5_passHour 53 = .ok (.aload_n 0, 1) := by decide +kernel
theorem dX5_passHour_54 : decode cX5_passHour 54 = .ok (.getfield 36, 3) := by decide +kernel
theorem dX5_passHour_57 : decode cX5_passHour 57 = .ok (.iconst 1, 1) := by decide +kernel
theorem dX5_passHour_58 : decode cX5_passHour 58 = .ok (.dup2, 1) := by decide +kernel
theorem dX5_passHour_59 : decode cX5_passHour 59 = .ok (.iaload, 1) := by decide +kernel
theorem dX5_passHour_60 : decode cX5_passHour 60 = .ok (.iload_n 3, 1) := by decide +kernel
theorem dX5_passHour_61 : decode cX5_passHour 61 = .ok (.iadd, 1) := by decide +kernel
theorem dX5_passHour_62 : decode cX5_passHour 62 = .ok (.iastore, 1) := by decide +kernel
theorem dX5_passHour_63 : decode cX5_passHour 63 = .ok (.iload_n 3, 1) := by decide +kernel
theorem dX5_passHour_64 : decode cX5_passHour 64 = .ok (.iload_n 1, 1) := by decide +kernel
theorem dX5_passHour_65 : decode cX5_passHour 65 = .ok (.if_icmp .le 16, 3) := by decide +kernel
theorem dX5_passHour_68 : decode cX5_passHour 68 = .ok (.aload_n 0, 1) := by decide +kernel
theorem dX5_passHour_69 : decode cX5_passHour 69 = .ok (.getfield 28, 3) := by decide +kernel
theorem dX5_passHour_72 : decode cX5_passHour 72 = .ok (.iload_n 3, 1) := by decide +kernel
theorem dX5_passHour_73 : decode cX5_passHour 73 = .ok (.iload_n 1, 1) := by decide +kernel
theorem dX5_passHour_74 : decode cX5_passHour 74 = .ok (.isub, 1) := by decide +kernel
theorem dX5_passHour_75 : decode cX5_passHour 75 = .ok (.invokevirtual 148, 3) := by decide +kernel
theorem dX5_passHour_78 : decode cX5_passHour 78 = .ok (.goto 10, 3) := by decide +kernel
theorem dX5_passHour_81 : decode cX5_passHour 81 = .ok (.aload_n 0, 1) := by decide +kernel
theorem dX5_passHour_82 : decode cX5_passHour 82 = .ok (.iload_n 1, 1) := by decide +kernel
theorem dX5_passHour_83 : decode cX5_passHour 83 = .ok (.iload_n 3, 1) := by decide +kernel
theorem dX5_passHour_84 : decode cX5_passHour 84 = .ok (.isub, 1) := by decide +kernel
theorem dX5_passHour_85 : decode cX5_passHour 85 = .ok (.invokevirtual 151, 3) := by decide +kernel
theorem dX5_passHour_88 : decode cX5_passHour 88 = .ok (.aload_n 0, 1) := by decide +kernel
theorem dX5_passHour_89 : decode cX5_passHour 89 = .ok (.dup, 1) := by decide +kernel
theorem dX5_passHour_90 : decode cX5_passHour 90 = .ok (.getfield 52, 3) := by decide +kernel
theorem dX5_passHour_93 : decode cX5_passHour 93 = .ok (.iconst 1, 1) := by decide +kernel
theorem dX5_passHour_94 : decode cX5_passHour 94 = .ok (.iadd, 1) := by decide +kernel
theorem dX5_passHour_95 : decode cX5_passHour 95 = .ok (.putfield 52, 3) := by decide +kernel
theorem dX5_passHour_98 : decode cX5_passHour 98 = .ok (.return_, 1) := by decide +kernel
theorem dX5_shed_0 : decode cX5_shed 0 = .ok (.iconst 0, 1) := by decide +kernel
theorem dX5_shed_1 : decode cX5_shed 1 = .ok (.istore_n 2, 1) := by decide +kernel
theorem dX5_shed_2 : decode cX5_shed 2 = .ok (.iload_n 2, 1) := by decide +kernel
theorem dX5_shed_3 : decode cX5_shed 3 = .ok (.iconst 3, 1) := by decide +kernel
theorem dX5_shed_4 : decode cX5_shed 4 = .ok (.if_icmp .ge 16, 3) := by decide +kernel
theorem dX5_shed_7 : decode cX5_shed 7 = .ok (.aload_n 0, 1) := by decide +kernel
theorem dX5_shed_8 : decode cX5_shed 8 = .ok (.getfield 42, 3) := by decide +kernel
theorem dX5_shed_11 : decode cX5_shed 11 = .ok (.iload_n 2, 1) := by decide +kernel
theorem dX5_shed_12 : decode cX5_shed 12 = .ok (.iconst 0, 1) := by decide +kernel
theorem dX5_shed_13 : decode cX5_shed 13 = .ok (.iastore, 1) := by decide +kernel
theorem dX5_shed_14 : decode cX5_shed 14 = .ok (.iinc 2 1, 3) := by decide +kernel
theorem dX5_shed_17 : decode cX5_shed 17 = .ok (.goto (-15), 3) := by decide +kernel
theorem dX5_shed_20 : decode cX5_shed 20 = .ok (.iconst 0, 1) := by decide +kernel
theorem dX5_shed_21 : decode cX5_shed 21 = .ok (.istore_n 2, 1) := by decide +kernel
theorem dX5_shed_22 : decode cX5_shed 22 = .ok (.iload_n 2, 1) := by decide +kernel
theorem dX5_shed_23 : decode cX5_shed 23 = .ok (.iconst 2, 1) := by decide +kernel
theorem dX5_shed_24 : decode cX5_shed 24 = .ok (.if_icmp .ge 99, 3) := by decide +kernel
theorem dX5_shed_27 : decode cX5_shed 27 = .ok (.aload_n 0, 1) := by decide +kernel
theorem dX5_shed_28 : decode cX5_shed 28 = .ok (.getfield 12, 3) := by decide +kernel
theorem dX5_shed_31 : decode cX5_shed 31 = .ok (.aload_n 0, 1) := by decide +kernel
theorem dX5_shed_32 : decode cX5_shed 32 = .ok (.getfield 12, 3) := by decide +kernel
theorem dX5_shed_35 : decode cX5_shed 35 = .ok (.getfield 154, 3) := by decide +kernel
theorem dX5_shed_38 : decode cX5_shed 38 = .ok (.invokevirtual 157, 3) := by decide +kernel
theorem dX5_shed_41 : decode cX5_shed 41 = .ok (.iload_n 1, 1) := by decide +kernel
theorem dX5_shed_42 : decode cX5_shed 42 = .ok (.if_icmp .le 81, 3) := by decide +kernel
theorem dX5_shed_45 : decode cX5_shed 45 = .ok (.aload_n 0, 1) := by decide +kernel
theorem dX5_shed_46 : decode cX5_shed 46 = .ok (.getfield 12, 3) := by decide +kernel
theorem dX5_shed_49 : decode cX5_shed 49 = .ok (.aload_n 0, 1) := by decide +kernel
theorem dX5_shed_50 : decode cX5_shed 50 = .ok (.getfield 55, 3) := by decide +kernel
theorem dX5_shed_53 : decode cX5_shed 53 = .ok (.aload_n 0, 1) := by decide +kernel
theorem dX5_shed_54 : decode cX5_shed 54 = .ok (.getfield 12, 3) := by decide +kernel
theorem dX5_shed_57 : decode cX5_shed 57 = .ok (.getfield 154, 3) := by decide +kernel
theorem dX5_shed_60 : decode cX5_shed 60 = .ok (.invokevirtual 161, 3) := by decide +kernel
theorem dX5_shed_63 : decode cX5_shed 63 = .ok (.ifCond .le 37, 3) := by decide +kernel
theorem dX5_shed_66 : decode cX5_shed 66 = .ok (.aload_n 0, 1) := by decide +kernel
theorem dX5_shed_67 : decode cX5_shed 67 = .ok (.getfield 12, 3) := by decide +kernel
theorem dX5_shed_70 : decode cX5_shed 70 = .ok (.aload_n 0, 1) := by decide +kernel
theorem dX5_shed_71 : decode cX5_shed 71 = .ok (.getfield 55, 3) := by decide +kernel
theorem dX5_shed_74 : decode cX5_shed 74 = .ok (.invokevirtual 165, 3) := by decide +kernel
theorem dX5_shed_77 : decode cX5_shed 77 = .ok (.aload_n 0, 1) := by decide +kernel
theorem dX5_shed_78 : decode cX5_shed 78 = .ok (.getfield 42, 3) := by decide +kernel
theorem dX5_shed_81 : decode cX5_shed 81 = .ok (.aload_n 0, 1) := by decide +kernel
theorem dX5_shed_82 : decode cX5_shed 82 = .ok (.getfield 55, 3) := by decide +kernel
theorem dX5_shed_85 : decode cX5_shed 85 = .ok (.iconst 1, 1) := by decide +kernel
theorem dX5_shed_86 : decode cX5_shed 86 = .ok (.iastore, 1) := by decide +kernel
theorem dX5_shed_87 : decode cX5_shed 87 = .ok (.aload_n 0, 1) := by decide +kernel
theorem dX5_shed_88 : decode cX5_shed 88 = .ok (.getfield 39, 3) := by decide +kernel
theorem dX5_shed_91 : decode cX5_shed 91 = .ok (.aload_n 0, 1) := by decide +kernel
theorem dX5_shed_92 : decode cX5_shed 92 = .ok (.getfield 55, 3) := by decide +kernel
theorem dX5_shed_95 : decode cX5_shed 95 = .ok (.dup2, 1) := by decide +kernel
theorem dX5_shed_96 : decode cX5_shed 96 = .ok (.iaload, 1) := by decide +kernel
theorem dX5_shed_97 : decode cX5_shed 97 = .ok (.iconst 1, 1) := by decide +kernel
theorem dX5_shed_98 : decode cX5_shed 98 = .ok (.iadd, 1) := by decide +kernel
theorem dX5_shed_99 : decode cX5_shed 99 = .ok (.iastore, 1) := by decide +kernel
theorem dX5_shed_100 : decode cX5_shed 100 = .ok (.aload_n 0, 1) := by decide +kernel
theorem dX5_shed_101 : decode cX5_shed 101 = .ok (.aload_n 0, 1) := by decide +kernel
theorem dX5_shed_102 : decode cX5_shed 102 = .ok (.getfield 55, 3) := by decide +kernel
theorem dX5_shed_105 : decode cX5_shed 105 = .ok (.iconst 1, 1) := by decide +kernel
theorem dX5_shed_106 : decode cX5_shed 106 = .ok (.if_icmp .ne 7, 3) := by decide +kernel
theorem dX5_shed_109 : decode cX5_shed 109 = .ok (.iconst 2, 1) := by decide +kernel
theorem dX5_shed_110 : decode cX5_shed 110 = .ok (.goto 4, 3) := by decide +kernel
theorem dX5_shed_113 : decode cX5_shed 113 = .ok (.iconst 1, 1) := by decide +kernel
theorem dX5_shed_114 : decode cX5_shed 114 = .ok (.putfield 55, 3) := by decide +kernel
theorem dX5_shed_117 : decode cX5_shed 117 = .ok (.iinc 2 1, 3) := by decide +kernel
theorem dX5_shed_120 : decode cX5_shed 120 = .ok (.goto (-98), 3) := by decide +kernel
theorem dX5_shed_123 : decode cX5_shed 123 = .ok (.return_, 1) := by decide +kernel
theorem dX5_serve_0 : decode cX5_serve 0 = .ok (.iload_n 1, 1) := by decide +kernel
theorem dX5_serve_1 : decode cX5_serve 1 = .ok (.istore_n 2, 1) := by decide +kernel
theorem dX5_serve_2 : decode cX5_serve 2 = .ok (.iconst 0, 1) := by decide +kernel
theorem dX5_serve_3 : decode cX5_serve 3 = .ok (.istore_n 3, 1) := by decide +kernel
theorem dX5_serve_4 : decode cX5_serve 4 = .ok (.iload_n 3, 1) := by decide +kernel
theorem dX5_serve_5 : decode cX5_serve 5 = .ok (.iconst 3, 1) := by decide +kernel
theorem dX5_serve_6 : decode cX5_serve 6 = .ok (.if_icmp .ge 92, 3) := by decide +kernel
theorem dX5_serve_9 : decode cX5_serve 9 = .ok (.iconst 0, 1) := by decide +kernel
theorem dX5_serve_10 : decode cX5_serve 10 = .ok (.istore 4, 2) := by decide +kernel
theorem dX5_serve_12 : decode cX5_serve 12 = .ok (.iload 4, 2) := by decide +kernel
theorem dX5_serve_14 : decode cX5_serve 14 = .ok (.aload_n 0, 1) := by decide +kernel
theorem dX5_serve_15 : decode cX5_serve 15 = .ok (.getfield 12, 3) := by decide +kernel
theorem dX5_serve_18 : decode cX5_serve 18 = .ok (.getfield 168, 3) := by decide +kernel
theorem dX5_serve_21 : decode cX5_serve 21 = .ok (.if_icmp .ge 71, 3) := by decide +kernel
theorem dX5_serve_24 : decode cX5_serve 24 = .ok (.aload_n 0, 1) := by decide +kernel
theorem dX5_serve_25 : decode cX5_serve 25 = .ok (.getfield 12, 3) := by decide +kernel
theorem dX5_serve_28 : decode cX5_serve 28 = .ok (.getfield 169, 3) := by decide +kernel
theorem dX5_serve_31 : decode cX5_serve 31 = .ok (.iload 4, 2) := by decide +kernel
theorem dX5_serve_33 : decode cX5_serve 33 = .ok (.iaload, 1) := by decide +kernel
theorem dX5_serve_34 : decode cX5_serve 34 = .ok (.iload_n 3, 1) := by decide +kernel
theorem dX5_serve_35 : decode cX5_serve 35 = .ok (.if_icmp .ne 51, 3) := by decide +kernel
theorem dX5_serve_38 : decode cX5_serve 38 = .ok (.aload_n 0, 1) := by decide +kernel
theorem dX5_serve_39 : decode cX5_serve 39 = .ok (.aload_n 0, 1) := by decide +kernel
theorem dX5_serve_40 : decode cX5_serve 40 = .ok (.getfield 12, 3) := by decide +kernel
theorem dX5_serve_43 : decode cX5_serve 43 = .ok (.getfield 154, 3) := by decide +kernel
theorem dX5_serve_46 : decode cX5_serve 46 = .ok (.iload 4, 2) := by decide +kernel
theorem dX5_serve_48 : decode cX5_serve 48 = .ok (.iaload, 1) := by decide +kernel
theorem dX5_serve_49 : decode cX5_serve 49 = .ok (.iload_n 2, 1) := by decide +kernel
theorem dX5_serve_50 : decode cX5_serve 50 = .ok (.invokevirtual 172, 3) := by decide +kernel
theorem dX5_serve_53 : decode cX5_serve 53 = .ok (.istore 5, 2) := by decide +kernel
theorem dX5_serve_55 : decode cX5_serve 55 = .ok (.aload_n 0, 1) := by decide +kernel
theorem dX5_serve_56 : decode cX5_serve 56 = .ok (.getfield 12, 3) := by decide +kernel
theorem dX5_serve_59 : decode cX5_serve 59 = .ok (.iload 4, 2) := by decide +kernel
theorem dX5_serve_61 : decode cX5_serve 61 = .ok (.iload 5, 2) := by decide +kernel
theorem dX5_serve_63 : decode cX5_serve 63 = .ok (.aload_n 0, 1) := by decide +kernel
theorem dX5_serve_64 : decode cX5_serve 64 = .ok (.getfield 42, 3) := by decide +kernel
theorem dX5_serve_67 : decode cX5_serve 67 = .ok (.iload_n 3, 1) := by decide +kernel
theorem dX5_serve_68 : decode cX5_serve 68 = .ok (.iaload, 1) := by decide +kernel
theorem dX5_serve_69 : decode cX5_serve 69 = .ok (.iconst 1, 1) := by decide +kernel
theorem dX5_serve_70 : decode cX5_serve 70 = .ok (.if_icmp .ne 7, 3) := by decide +kernel
theorem dX5_serve_73 : decode cX5_serve 73 = .ok (.iconst 1, 1) := by decide +kernel
theorem dX5_serve_74 : decode cX5_serve 74 = .ok (.goto 4, 3) := by decide +kernel
theorem dX5_serve_77 : decode cX5_serve 77 = .ok (.iconst 0, 1) := by decide +kernel
theorem dX5_serve_78 : decode cX5_serve 78 = .ok (.invokevirtual 175, 3) := by decide +kernel
theorem dX5_serve_81 : decode cX5_serve 81 = .ok (.iload_n 2, 1) := by decide +kernel
theorem dX5_serve_82 : decode cX5_serve 82 = .ok (.iload 5, 2) := by decide +kernel
theorem dX5_serve_84 : decode cX5_serve 84 = .ok (.isub, 1) := by decide +kernel
theorem dX5_serve_85 : decode cX5_serve 85 = .ok (.istore_n 2, 1) := by decide +kernel
theorem dX5_serve_86 : decode cX5_serve 86 = .ok (.iinc 4 1, 3) := by decide +kernel
theorem dX5_serve_89 : decode cX5_serve 89 = .ok (.goto (-77), 3) := by decide +kernel
theorem dX5_serve_92 : decode cX5_serve 92 = .ok (.iinc 3 1, 3) := by decide +kernel
theorem dX5_serve_95 : decode cX5_serve 95 = .ok (.goto (-91), 3) := by decide +kernel
theorem dX5_serve_98 : decode cX5_serve 98 = .ok (.iload_n 1, 1) := by decide +kernel
theorem dX5_serve_99 : decode cX5_serve 99 = .ok (.iload_n 2, 1) := by decide +kernel
theorem dX5_serve_100 : decode cX5_serve 100 = .ok (.isub, 1) := by decide +kernel
theorem dX5_serve_101 : decode cX5_serve 101 = .ok (.ireturn, 1) := by decide +kernel
theorem dX5_partOf_0 : decode cX5_partOf 0 = .ok (.iload_n 2, 1) := by decide +kernel
theorem dX5_partOf_1 : decode cX5_partOf 1 = .ok (.iload_n 1, 1) := by decide +kernel
theorem dX5_partOf_2 : decode cX5_partOf 2 = .ok (.if_icmp .lt 5, 3) := by decide +kernel
theorem dX5_partOf_5 : decode cX5_partOf 5 = .ok (.iload_n 1, 1) := by decide +kernel
theorem dX5_partOf_6 : decode cX5_partOf 6 = .ok (.ireturn, 1) := by decide +kernel
theorem dX5_partOf_7 : decode cX5_partOf 7 = .ok (.iload_n 2, 1) := by decide +kernel
theorem dX5_partOf_8 : decode cX5_partOf 8 = .ok (.bipush 100, 2) := by decide +kernel
theorem dX5_partOf_10 : decode cX5_partOf 10 = .ok (.imul, 1) := by decide +kernel
theorem dX5_partOf_11 : decode cX5_partOf 11 = .ok (.iload_n 1, 1) := by decide +kernel
theorem dX5_partOf_12 : decode cX5_partOf 12 = .ok (.aload_n 0, 1) := by decide +kernel
theorem dX5_partOf_13 : decode cX5_partOf 13 = .ok (.getfield 32, 3) := by decide +kernel
theorem dX5_partOf_16 : decode cX5_partOf 16 = .ok (.iconst 3, 1) := by decide +kernel
theorem dX5_partOf_17 : decode cX5_partOf 17 = .ok (.iaload, 1) := by decide +kernel
theorem dX5_partOf_18 : decode cX5_partOf 18 = .ok (.imul, 1) := by decide +kernel
theorem dX5_partOf_19 : decode cX5_partOf 19 = .ok (.if_icmp .lt 7, 3) := by decide +kernel
theorem dX5_partOf_22 : decode cX5_partOf 22 = .ok (.iload_n 2, 1) := by decide +kernel
theorem dX5_partOf_23 : decode cX5_partOf 23 = .ok (.goto 4, 3) := by decide +kernel
theorem dX5_partOf_26 : decode cX5_partOf 26 = .ok (.iconst 0, 1) := by decide +kernel
theorem dX5_partOf_27 : decode cX5_partOf 27 = .ok (.ireturn, 1) := by decide +kernel
theorem dX5_store_0 : decode cX5_store 0 = .ok (.iload_n 1, 1) := by decide +kernel
theorem dX5_store_1 : decode cX5_store 1 = .ok (.istore_n 2, 1) := by decide +kernel
theorem dX5_store_2 : decode cX5_store 2 = .ok (.iconst 0, 1) := by decide +kernel
theorem dX5_store_3 : decode cX5_store 3 = .ok (.istore_n 3, 1) := by decide +kernel
theorem dX5_store_4 : decode cX5_store 4 = .ok (.iload_n 3, 1) := by decide +kernel
theorem dX5_store_5 : decode cX5_store 5 = .ok (.iconst 2, 1) := by decide +kernel
theorem dX5_store_6 : decode cX5_store 6 = .ok (.if_icmp .ge 47, 3) := by decide +kernel
theorem dX5_store_9 : decode cX5_store 9 = .ok (.aload_n 0, 1) := by decide +kernel
theorem dX5_store_10 : decode cX5_store 10 = .ok (.getfield 28, 3) := by decide +kernel
theorem dX5_store_13 : decode cX5_store 13 = .ok (.iload_n 3, 1) := by decide +kernel
theorem dX5_store_14 : decode cX5_store 14 = .ok (.iload_n 2, 1) := by decide +kernel
theorem dX5_store_15 : decode cX5_store 15 = .ok (.invokevirtual 179, 3) := by decide +kernel
theorem dX5_store_18 : decode cX5_store 18 = .ok (.istore 4, 2) := by decide +kernel
theorem dX5_store_20 : decode cX5_store 20 = .ok (.aload_n 0, 1) := by decide +kernel
theorem dX5_store_21 : decode cX5_store 21 = .ok (.getfield 36, 3) := by decide +kernel
theorem dX5_store_24 : decode cX5_store 24 = .ok (.iconst 2, 1) := by decide +kernel
theorem dX5_store_25 : decode cX5_store 25 = .ok (.dup2, 1) := by decide +kernel
theorem dX5_store_26 : decode cX5_store 26 = .ok (.iaload, 1) := by decide +kernel
theorem dX5_store_27 : decode cX5_store 27 = .ok (.iload 4, 2) := by decide +kernel
theorem dX5_store_29 : decode cX5_store 29 = .ok (.aload_n 0, 1) := by decide +kernel
theorem dX5_store_30 : decode cX5_store 30 = .ok (.getfield 28, 3) := by decide +kernel
theorem dX5_store_33 : decode cX5_store 33 = .ok (.iload_n 3, 1) := by decide +kernel
theorem dX5_store_34 : decode cX5_store 34 = .ok (.iload 4, 2) := by decide +kernel
theorem dX5_store_36 : decode cX5_store 36 = .ok (.invokevirtual 182, 3) := by decide +kernel
theorem dX5_store_39 : decode cX5_store 39 = .ok (.isub, 1) := by decide +kernel
theorem dX5_store_40 : decode cX5_store 40 = .ok (.iadd, 1) := by decide +kernel
theorem dX5_store_41 : decode cX5_store 41 = .ok (.iastore, 1) := by decide +kernel
theorem dX5_store_42 : decode cX5_store 42 = .ok (.iload_n 2, 1) := by decide +kernel
theorem dX5_store_43 : decode cX5_store 43 = .ok (.iload 4, 2) := by decide +kernel
theorem dX5_store_45 : decode cX5_store 45 = .ok (.isub, 1) := by decide +kernel
theorem dX5_store_46 : decode cX5_store 46 = .ok (.istore_n 2, 1) := by decide +kernel
theorem dX5_store_47 : decode cX5_store 47 = .ok (.iinc 3 1, 3) := by decide +kernel
theorem dX5_store_50 : decode cX5_store 50 = .ok (.goto (-46), 3) := by decide +kernel
theorem dX5_store_53 : decode cX5_store 53 = .ok (.aload_n 0, 1) := by decide +kernel
theorem dX5_store_54 : decode cX5_store 54 = .ok (.getfield 36, 3) := by decide +kernel
theorem dX5_store_57 : decode cX5_store 57 = .ok (.iconst 3, 1) := by decide +kernel
theorem dX5_store_58 : decode cX5_store 58 = .ok (.dup2, 1) := by decide +kernel
theorem dX5_store_59 : decode cX5_store 59 = .ok (.iaload, 1) := by decide +kernel
theorem dX5_store_60 : decode cX5_store 60 = .ok (.iload_n 2, 1) := by decide +kernel
theorem dX5_store_61 : decode cX5_store 61 = .ok (.iadd, 1) := by decide +kernel
theorem dX5_store_62 : decode cX5_store 62 = .ok (.iastore, 1) := by decide +kernel
theorem dX5_store_63 : decode cX5_store 63 = .ok (.return_, 1) := by decide +kernel
theorem dX6_init_0 : decode cX6_init 0 = .ok (.aload_n 0, 1) := by decide +kernel
theorem dX6_init_1 : decode cX6_init 1 = .ok (.invokespecial 1, 3) := by decide +kernel
theorem dX6_init_4 : decode cX6_init 4 = .ok (.aload_n 0, 1) := by decide +kernel
theorem dX6_init_5 : decode cX6_init 5 = .ok (.new 7, 3) := by decide +kernel
theorem dX6_init_8 : decode cX6_init 8 = .ok (.dup, 1) := by decide +kernel
theorem dX6_init_9 : decode cX6_init 9 = .ok (.invokespecial 9, 3) := by decide +kernel
theorem dX6_init_12 : decode cX6_init 12 = .ok (.putfield 10, 3) := by decide +kernel
theorem dX6_init_15 : decode cX6_init 15 = .ok (.aload_n 0, 1) := by decide +kernel
theorem dX6_init_16 : decode cX6_init 16 = .ok (.new 7, 3) := by decide +kernel
theorem dX6_init_19 : decode cX6_init 19 = .ok (.dup, 1) := by decide +kernel
theorem dX6_init_20 : decode cX6_init 20 = .ok (.invokespecial 9, 3) := by decide +kernel
theorem dX6_init_23 : decode cX6_init 23 = .ok (.putfield 16, 3) := by decide +kernel
theorem dX6_init_26 : decode cX6_init 26 = .ok (.aload_n 0, 1) := by decide +kernel
theorem dX6_init_27 : decode cX6_init 27 = .ok (.new 19, 3) := by decide +kernel
theorem dX6_init_30 : decode cX6_init 30 = .ok (.dup, 1) := by decide +kernel
theorem dX6_init_31 : decode cX6_init 31 = .ok (.invokespecial 21, 3) := by decide +kernel
theorem dX6_init_34 : decode cX6_init 34 = .ok (.putfield 22, 3) := by decide +kernel
theorem dX6_init_37 : decode cX6_init 37 = .ok (.aload_n 0, 1) := by decide +kernel
theorem dX6_init_38 : decode cX6_init 38 = .ok (.iconst 2, 1) := by decide +kernel
theorem dX6_init_39 : decode cX6_init 39 = .ok (.anewarray 7, 3) := by decide +kernel
theorem dX6_init_42 : decode cX6_init 42 = .ok (.putfield 26, 3) := by decide +kernel
theorem dX6_init_45 : decode cX6_init 45 = .ok (.aload_n 0, 1) := by decide +kernel
theorem dX6_init_46 : decode cX6_init 46 = .ok (.iconst 2, 1) := by decide +kernel
theorem dX6_init_47 : decode cX6_init 47 = .ok (.newarray .boolean, 2) := by decide +kernel
theorem dX6_init_49 : decode cX6_init 49 = .ok (.putfield 30, 3) := by decide +kernel
theorem dX6_init_52 : decode cX6_init 52 = .ok (.aload_n 0, 1) := by decide +kernel
theorem dX6_init_53 : decode cX6_init 53 = .ok (.new 34, 3) := by decide +kernel
theorem dX6_init_56 : decode cX6_init 56 = .ok (.dup, 1) := by decide +kernel
theorem dX6_init_57 : decode cX6_init 57 = .ok (.invokespecial 36, 3) := by decide +kernel
theorem dX6_init_60 : decode cX6_init 60 = .ok (.putfield 37, 3) := by decide +kernel
theorem dX6_init_63 : decode cX6_init 63 = .ok (.iconst 0, 1) := by decide +kernel
theorem dX6_init_64 : decode cX6_init 64 = .ok (.istore_n 1, 1) := by decide +kernel
theorem dX6_init_65 : decode cX6_init 65 = .ok (.iload_n 1, 1) := by decide +kernel
theorem dX6_init_66 : decode cX6_init 66 = .ok (.iconst 2, 1) := by decide +kernel
theorem dX6_init_67 : decode cX6_init 67 = .ok (.if_icmp .ge 22, 3) := by decide +kernel
theorem dX6_init_70 : decode cX6_init 70 = .ok (.aload_n 0, 1) := by decide +kernel
theorem dX6_init_71 : decode cX6_init 71 = .ok (.getfield 26, 3) := by decide +kernel
theorem dX6_init_74 : decode cX6_init 74 = .ok (.iload_n 1, 1) := by decide +kernel
theorem dX6_init_75 : decode cX6_init 75 = .ok (.new 7, 3) := by decide +kernel
theorem dX6_init_78 : decode cX6_init 78 = .ok (.dup, 1) := by decide +kernel
theorem dX6_init_79 : decode cX6_init 79 = .ok (.invokespecial 9, 3) := by decide +kernel
theorem dX6_init_82 : decode cX6_init 82 = .ok (.aastore, 1) := by decide +kernel
theorem dX6_init_83 : decode cX6_init 83 = .ok (.iinc 1 1, 3) := by decide +kernel
theorem dX6_init_86 : decode cX6_init 86 = .ok (.goto (-21), 3) := by decide +kernel
theorem dX6_init_89 : decode cX6_init 89 = .ok (.return_, 1) := by decide +kernel
theorem dX6_addHouse_0 : decode cX6_addHouse 0 = .ok (.iload_n 1, 1) := by decide +kernel
theorem dX6_addHouse_1 : decode cX6_addHouse 1 = .ok (.iconst 0, 1) := by decide +kernel
theorem dX6_addHouse_2 : decode cX6_addHouse 2 = .ok (.iconst 2, 1) := by decide +kernel
theorem dX6_addHouse_3 : decode cX6_addHouse 3 = .ok (.invokestatic 41, 3) := by decide +kernel
theorem dX6_addHouse_6 : decode cX6_addHouse 6 = .ok (.ifCond .eq 13, 3) := by decide +kernel
theorem dX6_addHouse_9 : decode cX6_addHouse 9 = .ok (.iload_n 2, 1) := by decide +kernel
theorem dX6_addHouse_10 : decode cX6_addHouse 10 = .ok (.iconst 0, 1) := by decide +kernel
theorem dX6_addHouse_11 : decode cX6_addHouse 11 = .ok (.bipush 50, 2) := by decide +kernel
theorem dX6_addHouse_13 : decode cX6_addHouse 13 = .ok (.invokestatic 41, 3) := by decide +kernel
theorem dX6_addHouse_16 : decode cX6_addHouse 16 = .ok (.ifCond .ne 6, 3) := by decide +kernel
theorem dX6_addHouse_19 : decode cX6_addHouse 19 = .ok (.ldc 45, 2) := by decide +kernel
theorem dX6_addHouse_21 : decode cX6_addHouse 21 = .ok (.ireturn, 1) := by decide +kernel
theorem dX6_addHouse_22 : decode cX6_addHouse 22 = .ok (.aload_n 0, 1) := by decide +kernel
theorem dX6_addHouse_23 : decode cX6_addHouse 23 = .ok (.getfield 10, 3) := by decide +kernel
theorem dX6_addHouse_26 : decode cX6_addHouse 26 = .ok (.getfield 46, 3) := by decide +kernel
theorem dX6_addHouse_29 : decode cX6_addHouse 29 = .ok (.getfield 50, 3) := by decide +kernel
theorem dX6_addHouse_32 : decode cX6_addHouse 32 = .ok (.bipush 10, 2) := by decide +kernel
theorem dX6_addHouse_34 : decode cX6_addHouse 34 = .ok (.if_icmp .lt 6, 3) := by decide +kernel
theorem dX6_addHouse_37 : decode cX6_addHouse 37 = .ok (.ldc 56, 2) := by decide +kernel
theorem dX6_addHouse_39 : decode cX6_addHouse 39 = .ok (.ireturn, 1) := by decide +kernel
theorem dX6_addHouse_40 : decode cX6_addHouse 40 = .ok (.aload_n 0, 1) := by decide +kernel
theorem dX6_addHouse_41 : decode cX6_addHouse 41 = .ok (.getfield 22, 3) := by decide +kernel
theorem dX6_addHouse_44 : decode cX6_addHouse 44 = .ok (.aload_n 0, 1) := by decide +kernel
theorem dX6_addHouse_45 : decode cX6_addHouse 45 = .ok (.getfield 10, 3) := by decide +kernel
theorem dX6_addHouse_48 : decode cX6_addHouse 48 = .ok (.invokevirtual 57, 3) := by decide +kernel
theorem dX6_addHouse_51 : decode cX6_addHouse 51 = .ok (.aload_n 0, 1) := by decide +kernel
theorem dX6_addHouse_52 : decode cX6_addHouse 52 = .ok (.getfield 10, 3) := by decide +kernel
theorem dX6_addHouse_55 : decode cX6_addHouse 55 = .ok (.getfield 46, 3) := by decide +kernel
theorem dX6_addHouse_58 : decode cX6_addHouse 58 = .ok (.iload_n 1, 1) := by decide +kernel
theorem dX6_addHouse_59 : decode cX6_addHouse 59 = .ok (.iload_n 2, 1) := by decide +kernel
theorem dX6_addHouse_60 : decode cX6_addHouse 60 = .ok (.invokevirtual 61, 3) := by decide +kernel
theorem dX6_addHouse_63 : decode cX6_addHouse 63 = .ok (.ireturn, 1) := by decide +kernel
theorem dX6_setHouse_0 : decode cX6_setHouse 0 = .ok (.aload_n 0, 1) := by decide +kernel
theorem dX6_setHouse_1 : decode cX6_setHouse 1 = .ok (.iload_n 1, 1) := by decide +kernel
theorem dX6_setHouse_2 : decode cX6_setHouse 2 = .ok (.invokevirtual 65, 3) := by decide +kernel
theorem dX6_setHouse_5 : decode cX6_setHouse 5 = .ok (.ifCond .eq 25, 3) := by decide +kernel
theorem dX6_setHouse_8 : decode cX6_setHouse 8 = .ok (.iload_n 2, 1) := by decide +kernel
theorem dX6_setHouse_9 : decode cX6_setHouse 9 = .ok (.iconst 0, 1) := by decide +kernel
theorem dX6_setHouse_10 : decode cX6_setHouse 10 = .ok (.iconst 3, 1) := by decide +kernel
theorem dX6_setHouse_11 : decode cX6_setHouse 11 = .ok (.invokestatic 41, 3) := by decide +kernel
theorem dX6_setHouse_14 : decode cX6_setHouse 14 = .ok (.ifCond .eq 16, 3) := by decide +kernel
theorem dX6_setHouse_17 : decode cX6_setHouse 17 = .ok (.iload_n 3, 1) := by decide +kernel
theorem dX6_setHouse_18 : decode cX6_setHouse 18 = .ok (.iconst 0, 1) := by decide +kernel
theorem dX6_setHouse_19 : decode cX6_setHouse 19 = .ok (.getstatic 69, 3) := by decide +kernel
theorem dX6_setHouse_22 : decode cX6_setHouse 22 = .ok (.iload_n 2, 1) := by decide +kernel
theorem dX6_setHouse_23 : decode cX6_setHouse 23 = .ok (.iaload, 1) := by decide +kernel
theorem dX6_setHouse_24 : decode cX6_setHouse 24 = .ok (.invokestatic 41, 3) := by decide +kernel
theorem dX6_setHouse_27 : decode cX6_setHouse 27 = .ok (.ifCond .ne 6, 3) := by decide +kernel
theorem dX6_setHouse_30 : decode cX6_setHouse 30 = .ok (.ldc 45, 2) := by decide +kernel
theorem dX6_setHouse_32 : decode cX6_setHouse 32 = .ok (.ireturn, 1) := by decide +kernel
theorem dX6_setHouse_33 : decode cX6_setHouse 33 = .ok (.aload_n 0, 1) := by decide +kernel
theorem dX6_setHouse_34 : decode cX6_setHouse 34 = .ok (.getfield 22, 3) := by decide +kernel
theorem dX6_setHouse_37 : decode cX6_setHouse 37 = .ok (.aload_n 0, 1) := by decide +kernel
theorem dX6_setHouse_38 : decode cX6_setHouse 38 = .ok (.getfield 10, 3) := by decide +kernel
theorem dX6_setHouse_41 : decode cX6_setHouse 41 = .ok (.invokevirtual 57, 3) := by decide +kernel
theorem dX6_setHouse_44 : decode cX6_setHouse 44 = .ok (.aload_n 0, 1) := by decide +kernel
theorem dX6_setHouse_45 : decode cX6_setHouse 45 = .ok (.getfield 10, 3) := by decide +kernel
theorem dX6_setHouse_48 : decode cX6_setHouse 48 = .ok (.getfield 46, 3) := by decide +kernel
theorem dX6_setHouse_51 : decode cX6_setHouse 51 = .ok (.iload_n 1, 1) := by decide +kernel
theorem dX6_setHouse_52 : decode cX6_setHouse 52 = .ok (.iload_n 2, 1) := by decide +kernel
theorem dX6_setHouse_53 : decode cX6_setHouse 53 = .ok (.invokevirtual 73, 3) := by decide +kernel
theorem dX6_setHouse_56 : decode cX6_setHouse 56 = .ok (.istore 4, 2) := by decide +kernel
theorem dX6_setHouse_58 : decode cX6_setHouse 58 = .ok (.aload_n 0, 1) := by decide +kernel
theorem dX6_setHouse_59 : decode cX6_setHouse 59 = .ok (.getfield 10, 3) := by decide +kernel
theorem dX6_setHouse_62 : decode cX6_setHouse 62 = .ok (.getfield 46, 3) := by decide +kernel
theorem dX6_setHouse_65 : decode cX6_setHouse 65 = .ok (.iload_n 1, 1) := by decide +kernel
theorem dX6_setHouse_66 : decode cX6_setHouse 66 = .ok (.iload_n 2, 1) := by decide +kernel
theorem dX6_setHouse_67 : decode cX6_setHouse 67 = .ok (.iload_n 3, 1) := by decide +kernel
theorem dX6_setHouse_68 : decode cX6_setHouse 68 = .ok (.invokevirtual 76, 3) := by decide +kernel
theorem dX6_setHouse_71 : decode cX6_setHouse 71 = .ok (.iload 4, 2) := by decide +kernel
theorem dX6_setHouse_73 : decode cX6_setHouse 73 = .ok (.ireturn, 1) := by decide +kernel
theorem dX6_buy_0 : decode cX6_buy 0 = .ok (.aload_n 0, 1) := by decide +kernel
theorem dX6_buy_1 : decode cX6_buy 1 = .ok (.iload_n 1, 1) := by decide +kernel
theorem dX6_buy_2 : decode cX6_buy 2 = .ok (.invokevirtual 65, 3) := by decide +kernel
theorem dX6_buy_5 : decode cX6_buy 5 = .ok (.ifCond .eq 14, 3) := by decide +kernel
theorem dX6_buy_8 : decode cX6_buy 8 = .ok (.iload_n 2, 1) := by decide +kernel
theorem dX6_buy_9 : decode cX6_buy 9 = .ok (.iconst 1, 1) := by decide +kernel
theorem dX6_buy_10 : decode cX6_buy 10 = .ok (.sipush 500, 3) := by decide +kernel
theorem dX6_buy_13 : decode cX6_buy 13 = .ok (.invokestatic 41, 3) := by decide +kernel
theorem dX6_buy_16 : decode cX6_buy 16 = .ok (.ifCond .ne 6, 3) := by decide +kernel
theorem dX6_buy_19 : decode cX6_buy 19 = .ok (.ldc 45, 2) := by decide +kernel
theorem dX6_buy_21 : decode cX6_buy 21 = .ok (.ireturn, 1) := by decide +kernel
theorem dX6_buy_22 : decode cX6_buy 22 = .ok (.aload_n 0, 1) := by decide +kernel
theorem dX6_buy_23 : decode cX6_buy 23 = .ok (.getfield 22, 3) := by decide +kernel
theorem dX6_buy_26 : decode cX6_buy 26 = .ok (.aload_n 0, 1) := by decide +kernel
theorem dX6_buy_27 : decode cX6_buy 27 = .ok (.getfield 10, 3) := by decide +kernel
theorem dX6_buy_30 : decode cX6_buy 30 = .ok (.invokevirtual 57, 3) := by decide +kernel
theorem dX6_buy_33 : decode cX6_buy 33 = .ok (.aload_n 0, 1) := by decide +kernel
theorem dX6_buy_34 : decode cX6_buy 34 = .ok (.getfield 10, 3) := by decide +kernel
theorem dX6_buy_37 : decode cX6_buy 37 = .ok (.iload_n 1, 1) := by decide +kernel
theorem dX6_buy_38 : decode cX6_buy 38 = .ok (.iload_n 2, 1) := by decide +kernel
theorem dX6_buy_39 : decode cX6_buy 39 = .ok (.invokevirtual 97, 3) := by decide +kernel
theorem dX6_buy_42 : decode cX6_buy 42 = .ok (.aload_n 0, 1) := by decide +kernel
theorem dX6_buy_43 : decode cX6_buy 43 = .ok (.getfield 10, 3) := by decide +kernel
theorem dX6_buy_46 : decode cX6_buy 46 = .ok (.getfield 46, 3) := by decide +kernel
theorem dX6_buy_49 : decode cX6_buy 49 = .ok (.getfield 101, 3) := by decide +kernel
theorem dX6_buy_52 : decode cX6_buy 52 = .ok (.iload_n 1, 1) := by decide +kernel
theorem dX6_buy_53 : decode cX6_buy 53 = .ok (.iaload, 1) := by decide +kernel
theorem dX6_buy_54 : decode cX6_buy 54 = .ok (.ireturn, 1) := by decide +kernel
theorem dX6_lend_0 : decode cX6_lend 0 = .ok (.aload_n 0, 1) := by decide +kernel
theorem dX6_lend_1 : decode cX6_lend 1 = .ok (.iload_n 1, 1) := by decide +kernel
theorem dX6_lend_2 : decode cX6_lend 2 = .ok (.invokevirtual 65, 3) := by decide +kernel
theorem dX6_lend_5 : decode cX6_lend 5 = .ok (.ifCond .eq 27, 3) := by decide +kernel
theorem dX6_lend_8 : decode cX6_lend 8 = .ok (.aload_n 0, 1) := by decide +kernel
theorem dX6_lend_9 : decode cX6_lend 9 = .ok (.iload_n 2, 1) := by decide +kernel
theorem dX6_lend_10 : decode cX6_lend 10 = .ok (.invokevirtual 65, 3) := by decide +kernel
theorem dX6_lend_13 : decode cX6_lend 13 = .ok (.ifCond .eq 19, 3) := by decide +kernel
theorem dX6_lend_16 : decode cX6_lend 16 = .ok (.iload_n 1, 1) := by decide +kernel
theorem dX6_lend_17 : decode cX6_lend 17 = .ok (.iload_n 2, 1) := by decide +kernel
theorem dX6_lend_18 : decode cX6_lend 18 = .ok (.if_icmp .eq 14, 3) := by decide +kernel
theorem dX6_lend_21 : decode cX6_lend 21 = .ok (.iload_n 3, 1) := by decide +kernel
theorem dX6_lend_22 : decode cX6_lend 22 = .ok (.iconst 1, 1) := by decide +kernel
theorem dX6_lend_23 : decode cX6_lend 23 = .ok (.sipush 200, 3) := by decide +kernel
theorem dX6_lend_26 : decode cX6_lend 26 = .ok (.invokestatic 41, 3) := by decide +kernel
theorem dX6_lend_29 : decode cX6_lend 29 = .ok (.ifCond .ne 6, 3) := by decide +kernel
theorem dX6_lend_32 : decode cX6_lend 32 = .ok (.ldc 45, 2) := by decide +kernel
theorem dX6_lend_34 : decode cX6_lend 34 = .ok (.ireturn, 1) := by decide +kernel
theorem dX6_lend_35 : decode cX6_lend 35 = .ok (.aload_n 0, 1) := by decide +kernel
theorem dX6_lend_36 : decode cX6_lend 36 = .ok (.getfield 10, 3) := by decide +kernel
theorem dX6_lend_39 : decode cX6_lend 39 = .ok (.getfield 46, 3) := by decide +kernel
theorem dX6_lend_42 : decode cX6_lend 42 = .ok (.getfield 101, 3) := by decide +kernel
theorem dX6_lend_45 : decode cX6_lend 45 = .ok (.iload_n 1, 1) := by decide +kernel
theorem dX6_lend_46 : decode cX6_lend 46 = .ok (.iaload, 1) := by decide +kernel
theorem dX6_lend_47 : decode cX6_lend 47 = .ok (.iload_n 3, 1) := by decide +kernel
theorem dX6_lend_48 : decode cX6_lend 48 = .ok (.if_icmp .ge 6, 3) := by decide +kernel
theorem dX6_lend_51 : decode cX6_lend 51 = .ok (.ldc 89, 2) := by decide +kernel
theorem dX6_lend_53 : decode cX6_lend 53 = .ok (.ireturn, 1) := by decide +kernel
theorem dX6_lend_54 : decode cX6_lend 54 = .ok (.aload_n 0, 1) := by decide +kernel
theorem dX6_lend_55 : decode cX6_lend 55 = .ok (.getfield 10, 3) := by decide +kernel
theorem dX6_lend_58 : decode cX6_lend 58 = .ok (.getfield 80, 3) := by decide +kernel
theorem dX6_lend_61 : decode cX6_lend 61 = .ok (.getfield 104, 3) := by decide +kernel
theorem dX6_lend_64 : decode cX6_lend 64 = .ok (.bipush 12, 2) := by decide +kernel
theorem dX6_lend_66 : decode cX6_lend 66 = .ok (.if_icmp .lt 6, 3) := by decide +kernel
theorem dX6_lend_69 : decode cX6_lend 69 = .ok (.ldc 56, 2) := by decide +kernel
theorem dX6_lend_71 : decode cX6_lend 71 = .ok (.ireturn, 1) := by decide +kernel
theorem dX6_lend_72 : decode cX6_lend 72 = .ok (.aload_n 0, 1) := by decide +kernel
theorem dX6_lend_73 : decode cX6_lend 73 = .ok (.getfield 22, 3) := by decide +kernel
theorem dX6_lend_76 : decode cX6_lend 76 = .ok (.aload_n 0, 1) := by decide +kernel
theorem dX6_lend_77 : decode cX6_lend 77 = .ok (.getfield 10, 3) := by decide +kernel
theorem dX6_lend_80 : decode cX6_lend 80 = .ok (.invokevirtual 57, 3) := by decide +kernel
theorem dX6_lend_83 : decode cX6_lend 83 = .ok (.aload_n 0, 1) := by decide +kernel
theorem dX6_lend_84 : decode cX6_lend 84 = .ok (.getfield 10, 3) := by decide +kernel
theorem dX6_lend_87 : decode cX6_lend 87 = .ok (.getfield 46, 3) := by decide +kernel
theorem dX6_lend_90 : decode cX6_lend 90 = .ok (.getfield 101, 3) := by decide +kernel
theorem dX6_lend_93 : decode cX6_lend 93 = .ok (.iload_n 1, 1) := by decide +kernel
theorem dX6_lend_94 : decode cX6_lend 94 = .ok (.dup2, 1) := by decide +kernel
theorem dX6_lend_95 : decode cX6_lend 95 = .ok (.iaload, 1) := by decide +kernel
theorem dX6_lend_96 : decode cX6_lend 96 = .ok (.iload_n 3, 1) := by decide +kernel
theorem dX6_lend_97 : decode cX6_lend 97 = .ok (.isub, 1) := by decide +kernel
theorem dX6_lend_98 : decode cX6_lend 98 = .ok (.iastore, 1) := by decide +kernel
theorem dX6_lend_99 : decode cX6_lend 99 = .ok (.aload_n 0, 1) := by decide +kernel
theorem dX6_lend_100 : decode cX6_lend 100 = .ok (.getfield 10, 3) := by decide +kernel
theorem dX6_lend_103 : decode cX6_lend 103 = .ok (.getfield 46, 3) := by decide +kernel
theorem dX6_lend_106 : decode cX6_lend 106 = .ok (.getfield 101, 3) := by decide +kernel
theorem dX6_lend_109 : decode cX6_lend 109 = .ok (.iload_n 2, 1) := by decide +kernel
theorem dX6_lend_110 : decode cX6_lend 110 = .ok (.dup2, 1) := by decide +kernel
theorem dX6_lend_111 : decode cX6_lend 111 = .ok (.iaload, 1) := by decide +kernel
theorem dX6_lend_112 : decode cX6_lend 112 = .ok (.iload_n 3, 1) := by decide +kernel
theorem dX6_lend_113 : decode cX6_lend 113 = .ok (.iadd, 1) := by decide +kernel
theorem dX6_lend_114 : decode cX6_lend 114 = .ok (.iastore, 1) := by decide +kernel
theorem dX6_lend_115 : decode cX6_lend 115 = .ok (.aload_n 0, 1) := by decide +kernel
theorem dX6_lend_116 : decode cX6_lend 116 = .ok (.getfield 10, 3) := by decide +kernel
theorem dX6_lend_119 : decode cX6_lend 119 = .ok (.getfield 80, 3) := by decide +kernel
theorem dX6_lend_122 : decode cX6_lend 122 = .ok (.iload_n 1, 1) := by decide +kernel
theorem dX6_lend_123 : decode cX6_lend 123 = .ok (.iload_n 2, 1) := by decide +kernel
theorem dX6_lend_124 : decode cX6_lend 124 = .ok (.iload_n 3, 1) := by decide +kernel
theorem dX6_lend_125 : decode cX6_lend 125 = .ok (.invokevirtual 105, 3) := by decide +kernel
theorem dX6_lend_128 : decode cX6_lend 128 = .ok (.aload_n 0, 1) := by decide +kernel
theorem dX6_lend_129 : decode cX6_lend 129 = .ok (.getfield 10, 3) := by decide +kernel
theorem dX6_lend_132 : decode cX6_lend 132 = .ok (.getfield 80, 3) := by decide +kernel
theorem dX6_lend_135 : decode cX6_lend 135 = .ok (.getfield 104, 3) := by decide +kernel
theorem dX6_lend_138 : decode cX6_lend 138 = .ok (.ireturn, 1) := by decide +kernel
theorem dX6_set_0 : decode cX6_set 0 = .ok (.iload_n 1, 1) := by decide +kernel
theorem dX6_set_1 : decode cX6_set 1 = .ok (.invokestatic 118, 3) := by decide +kernel
theorem dX6_set_4 : decode cX6_set 4 = .ok (.ifCond .eq 16, 3) := by decide +kernel
theorem dX6_set_7 : decode cX6_set 7 = .ok (.iload_n 2, 1) := by decide +kernel
theorem dX6_set_8 : decode cX6_set 8 = .ok (.iconst 0, 1) := by decide +kernel
theorem dX6_set_9 : decode cX6_set 9 = .ok (.getstatic 121, 3) := by decide +kernel
theorem dX6_set_12 : decode cX6_set 12 = .ok (.iload_n 1, 1) := by decide +kernel
theorem dX6_set_13 : decode cX6_set 13 = .ok (.iaload, 1) := by decide +kernel
theorem dX6_set_14 : decode cX6_set 14 = .ok (.invokestatic 41, 3) := by decide +kernel
theorem dX6_set_17 : decode cX6_set 17 = .ok (.ifCond .ne 6, 3) := by decide +kernel
theorem dX6_set_20 : decode cX6_set 20 = .ok (.ldc 45, 2) := by decide +kernel
theorem dX6_set_22 : decode cX6_set 22 = .ok (.ireturn, 1) := by decide +kernel
theorem dX6_set_23 : decode cX6_set 23 = .ok (.aload_n 0, 1) := by decide +kernel
theorem dX6_set_24 : decode cX6_set 24 = .ok (.getfield 22, 3) := by decide +kernel
theorem dX6_set_27 : decode cX6_set 27 = .ok (.aload_n 0, 1) := by decide +kernel
theorem dX6_set_28 : decode cX6_set 28 = .ok (.getfield 10, 3) := by decide +kernel
theorem dX6_set_31 : decode cX6_set 31 = .ok (.invokevirtual 57, 3) := by decide +kernel
theorem dX6_set_34 : decode cX6_set 34 = .ok (.aload_n 0, 1) := by decide +kernel
theorem dX6_set_35 : decode cX6_set 35 = .ok (.getfield 10, 3) := by decide +kernel
theorem dX6_set_38 : decode cX6_set 38 = .ok (.getfield 124, 3) := by decide +kernel
theorem dX6_set_41 : decode cX6_set 41 = .ok (.iload_n 1, 1) := by decide +kernel
theorem dX6_set_42 : decode cX6_set 42 = .ok (.iaload, 1) := by decide +kernel
theorem dX6_set_43 : decode cX6_set 43 = .ok (.istore_n 3, 1) := by decide +kernel
theorem dX6_set_44 : decode cX6_set 44 = .ok (.aload_n 0, 1) := by decide +kernel
theorem dX6_set_45 : decode cX6_set 45 = .ok (.getfield 10, 3) := by decide +kernel
theorem dX6_set_48 : decode cX6_set 48 = .ok (.getfield 124, 3) := by decide +kernel
theorem dX6_set_51 : decode cX6_set 51 = .ok (.iload_n 1, 1) := by decide +kernel
theorem dX6_set_52 : decode cX6_set 52 = .ok (.iload_n 2, 1) := by decide +kernel
theorem dX6_set_53 : decode cX6_set 53 = .ok (.iastore, 1) := by decide +kernel
theorem dX6_set_54 : decode cX6_set 54 = .ok (.iload_n 3, 1) := by decide +kernel
theorem dX6_set_55 : decode cX6_set 55 = .ok (.ireturn, 1) := by decide +kernel
theorem dX6_setBattery_0 : decode cX6_setBattery 0 = .ok (.iload_n 1, 1) := by decide +kernel
theorem dX6_setBattery_1 : decode cX6_setBattery 1 = .ok (.invokestatic 127, 3) := by decide +kernel
theorem dX6_setBattery_4 : decode cX6_setBattery 4 = .ok (.ifCond .eq 29, 3) := by decide +kernel
theorem dX6_setBattery_7 : decode cX6_setBattery 7 = .ok (.iload_n 2, 1) := by decide +kernel
theorem dX6_setBattery_8 : decode cX6_setBattery 8 = .ok (.iconst 0, 1) := by decide +kernel
theorem dX6_setBattery_9 : decode cX6_setBattery 9 = .ok (.iconst 2, 1) := by decide +kernel
theorem dX6_setBattery_10 : decode cX6_setBattery 10 = .ok (.invokestatic 41, 3) := by decide +kernel
theorem dX6_setBattery_13 : decode cX6_setBattery 13 = .ok (.ifCond .eq 20, 3) := by decide +kernel
theorem dX6_setBattery_16 : decode cX6_setBattery 16 = .ok (.iload_n 3, 1) := by decide +kernel
theorem dX6_setBattery_17 : decode cX6_setBattery 17 = .ok (.getstatic 130, 3) := by decide +kernel
theorem dX6_setBattery_20 : decode cX6_setBattery 20 = .ok (.iload_n 2, 1) := by decide +kernel
theorem dX6_setBattery_21 : decode cX6_setBattery 21 = .ok (.iaload, 1) := by decide +kernel
theorem dX6_setBattery_22 : decode cX6_setBattery 22 = .ok (.getstatic 133, 3) := by decide +kernel
theorem dX6_setBattery_25 : decode cX6_setBattery 25 = .ok (.iload_n 2, 1) := by decide +kernel
theorem dX6_setBattery_26 : decode cX6_setBattery 26 = .ok (.iaload, 1) := by decide +kernel
theorem dX6_setBattery_27 : decode cX6_setBattery 27 = .ok (.invokestatic 41, 3) := by decide +kernel
theorem dX6_setBattery_30 : decode cX6_setBattery 30 = .ok (.ifCond .ne 6, 3) := by decide +kernel
theorem dX6_setBattery_33 : decode cX6_setBattery 33 = .ok (.ldc 45, 2) := by decide +kernel
theorem dX6_setBattery_35 : decode cX6_setBattery 35 = .ok (.ireturn, 1) := by decide +kernel
theorem dX6_setBattery_36 : decode cX6_setBattery 36 = .ok (.aload_n 0, 1) := by decide +kernel
theorem dX6_setBattery_37 : decode cX6_setBattery 37 = .ok (.getfield 22, 3) := by decide +kernel
theorem dX6_setBattery_40 : decode cX6_setBattery 40 = .ok (.aload_n 0, 1) := by decide +kernel
theorem dX6_setBattery_41 : decode cX6_setBattery 41 = .ok (.getfield 10, 3) := by decide +kernel
theorem dX6_setBattery_44 : decode cX6_setBattery 44 = .ok (.invokevirtual 57, 3) := by decide +kernel
theorem dX6_setBattery_47 : decode cX6_setBattery 47 = .ok (.aload_n 0, 1) := by decide +kernel
theorem dX6_setBattery_48 : decode cX6_setBattery 48 = .ok (.getfield 10, 3) := by decide +kernel
theorem dX6_setBattery_51 : decode cX6_setBattery 51 = .ok (.getfield 136, 3) := by decide +kernel
theorem dX6_setBattery_54 : decode cX6_setBattery 54 = .ok (.iload_n 1, 1) := by decide +kernel
theorem dX6_setBattery_55 : decode cX6_setBattery 55 = .ok (.iload_n 2, 1) := by decide +kernel
theorem dX6_setBattery_56 : decode cX6_setBattery 56 = .ok (.invokevirtual 140, 3) := by decide +kernel
theorem dX6_setBattery_59 : decode cX6_setBattery 59 = .ok (.istore 4, 2) := by decide +kernel
theorem dX6_setBattery_61 : decode cX6_setBattery 61 = .ok (.aload_n 0, 1) := by decide +kernel
theorem dX6_setBattery_62 : decode cX6_setBattery 62 = .ok (.getfield 10, 3) := by decide +kernel
theorem dX6_setBattery_65 : decode cX6_setBattery 65 = .ok (.getfield 136, 3) := by decide +kernel
theorem dX6_setBattery_68 : decode cX6_setBattery 68 = .ok (.iload_n 1, 1) := by decide +kernel
theorem dX6_setBattery_69 : decode cX6_setBattery 69 = .ok (.iload_n 2, 1) := by decide +kernel
theorem dX6_setBattery_70 : decode cX6_setBattery 70 = .ok (.iload_n 3, 1) := by decide +kernel
theorem dX6_setBattery_71 : decode cX6_setBattery 71 = .ok (.invokevirtual 143, 3) := by decide +kernel
theorem dX6_setBattery_74 : decode cX6_setBattery 74 = .ok (.aload_n 0, 1) := by decide +kernel
theorem dX6_setBattery_75 : decode cX6_setBattery 75 = .ok (.getfield 10, 3) := by decide +kernel
theorem dX6_setBattery_78 : decode cX6_setBattery 78 = .ok (.getfield 144, 3) := by decide +kernel
theorem dX6_setBattery_81 : decode cX6_setBattery 81 = .ok (.iconst 4, 1) := by decide +kernel
theorem dX6_setBattery_82 : decode cX6_setBattery 82 = .ok (.dup2, 1) := by decide +kernel
theorem dX6_setBattery_83 : decode cX6_setBattery 83 = .ok (.iaload, 1) := by decide +kernel
theorem dX6_setBattery_84 : decode cX6_setBattery 84 = .ok (.aload_n 0, 1) := by decide +kernel
theorem dX6_setBattery_85 : decode cX6_setBattery 85 = .ok (.getfield 10, 3) := by decide +kernel
theorem dX6_setBattery_88 : decode cX6_setBattery 88 = .ok (.getfield 136, 3) := by decide +kernel
theorem dX6_setBattery_91 : decode cX6_setBattery 91 = .ok (.iload_n 1, 1) := by decide +kernel
theorem dX6_setBattery_92 : decode cX6_setBattery 92 = .ok (.invokevirtual 147, 3) := by decide +kernel
theorem dX6_setBattery_95 : decode cX6_setBattery 95 = .ok (.iadd, 1) := by decide +kernel
theorem dX6_setBattery_96 : decode cX6_setBattery 96 = .ok (.iastore, 1) := by decide +kernel
theorem dX6_setBattery_97 : decode cX6_setBattery 97 = .ok (.iload 4, 2) := by decide +kernel
theorem dX6_setBattery_99 : decode cX6_setBattery 99 = .ok (.ireturn, 1) := by decide +kernel
theorem dX6_run_0 : decode cX6_run 0 = .ok (.iload_n 1, 1) := by decide +kernel
theorem dX6_run_1 : decode cX6_run 1 = .ok (.iconst 1, 1) := by decide +kernel
theorem dX6_run_2 : decode cX6_run 2 = .ok (.bipush 100, 2) := by decide +kernel
theorem dX6_run_4 : decode cX6_run 4 = .ok (.invokestatic 41, 3) := by decide +kernel
theorem dX6_run_7 : decode cX6_run 7 = .ok (.ifCond .ne 6, 3) := by decide +kernel
theorem dX6_run_10 : decode cX6_run 10 = .ok (.ldc 45, 2) := by decide +kernel
theorem dX6_run_12 : decode cX6_run 12 = .ok (.ireturn, 1) := by decide +kernel
theorem dX6_run_13 : decode cX6_run 13 = .ok (.aload_n 0, 1) := by decide +kernel
theorem dX6_run_14 : decode cX6_run 14 = .ok (.getfield 22, 3) := by decide +kernel
theorem dX6_run_17 : decode cX6_run 17 = .ok (.aload_n 0, 1) := by decide +kernel
theorem dX6_run_18 : decode cX6_run 18 = .ok (.getfield 10, 3) := by decide +kernel
theorem dX6_run_21 : decode cX6_run 21 = .ok (.invokevirtual 57, 3) := by decide +kernel
theorem dX6_run_24 : decode cX6_run 24 = .ok (.aload_n 0, 1) := by decide +kernel
theorem dX6_run_25 : decode cX6_run 25 = .ok (.getfield 10, 3) := by decide +kernel
theorem dX6_run_28 : decode cX6_run 28 = .ok (.getfield 144, 3) := by decide +kernel
theorem dX6_run_31 : decode cX6_run 31 = .ok (.iconst 1, 1) := by decide +kernel
theorem dX6_run_32 : decode cX6_run 32 = .ok (.iaload, 1) := by decide +kernel
theorem dX6_run_33 : decode cX6_run 33 = .ok (.istore_n 2, 1) := by decide +kernel
theorem dX6_run_34 : decode cX6_run 34 = .ok (.aload_n 0, 1) := by decide +kernel
theorem dX6_run_35 : decode cX6_run 35 = .ok (.getfield 10, 3) := by decide +kernel
theorem dX6_run_38 : decode cX6_run 38 = .ok (.iload_n 1, 1) := by decide +kernel
theorem dX6_run_39 : decode cX6_run 39 = .ok (.invokevirtual 151, 3) := by decide +kernel
theorem dX6_run_42 : decode cX6_run 42 = .ok (.aload_n 0, 1) := by decide +kernel
theorem dX6_run_43 : decode cX6_run 43 = .ok (.getfield 10, 3) := by decide +kernel
theorem dX6_run_46 : decode cX6_run 46 = .ok (.getfield 144, 3) := by decide +kernel
theorem dX6_run_49 : decode cX6_run 49 = .ok (.iconst 1, 1) := by decide +kernel
theorem dX6_run_50 : decode cX6_run 50 = .ok (.iaload, 1) := by decide +kernel
theorem dX6_run_51 : decode cX6_run 51 = .ok (.iload_n 2, 1) := by decide +kernel
theorem dX6_run_52 : decode cX6_run 52 = .ok (.isub, 1) := by decide +kernel
theorem dX6_run_53 : decode cX6_run 53 = .ok (.ireturn, 1) := by decide +kernel
theorem dX6_house_0 : decode cX6_house 0 = .ok (.aload_n 0, 1) := by decide +kernel
theorem dX6_house_1 : decode cX6_house 1 = .ok (.iload_n 1, 1) := by decide +kernel
theorem dX6_house_2 : decode cX6_house 2 = .ok (.invokevirtual 65, 3) := by decide +kernel
theorem dX6_house_5 : decode cX6_house 5 = .ok (.ifCond .eq 13, 3) := by decide +kernel
theorem dX6_house_8 : decode cX6_house 8 = .ok (.iload_n 2, 1) := by decide +kernel
theorem dX6_house_9 : decode cX6_house 9 = .ok (.iconst 0, 1) := by decide +kernel
theorem dX6_house_10 : decode cX6_house 10 = .ok (.bipush 10, 2) := by decide +kernel
theorem dX6_house_12 : decode cX6_house 12 = .ok (.invokestatic 41, 3) := by decide +kernel
theorem dX6_house_15 : decode cX6_house 15 = .ok (.ifCond .ne 6, 3) := by decide +kernel
theorem dX6_house_18 : decode cX6_house 18 = .ok (.ldc 45, 2) := by decide +kernel
theorem dX6_house_20 : decode cX6_house 20 = .ok (.ireturn, 1) := by decide +kernel
theorem dX6_house_21 : decode cX6_house 21 = .ok (.iload_n 2, 1) := by decide +kernel
theorem dX6_house_22 : decode cX6_house 22 = .ok (.lookupswitch 79 #[(5, 34), (9, 55), (10, 67)], 34) := by decide +kernel
theorem dX6_house_56 : decode cX6_house 56 = .ok (.aload_n 0, 1) := by decide +kernel
theorem dX6_house_57 : decode cX6_house 57 = .ok (.getfield 10, 3) := by decide +kernel
theorem dX6_house_60 : decode cX6_house 60 = .ok (.getfield 46, 3) := by decide +kernel
theorem dX6_house_63 : decode cX6_house 63 = .ok (.iload_n 1, 1) := by decide +kernel
theorem dX6_house_64 : decode cX6_house 64 = .ok (.aload_n 0, 1) := by decide +kernel
theorem dX6_house_65 : decode cX6_house 65 = .ok (.getfield 10, 3) := by decide +kernel
theorem dX6_house_68 : decode cX6_house 68 = .ok (.getfield 124, 3) := by decide +kernel
theorem dX6_house_71 : decode cX6_house 71 = .ok (.iconst 0, 1) := by decide +kernel
theorem dX6_house_72 : decode cX6_house 72 = .ok (.iaload, 1) := by decide +kernel
theorem dX6_house_73 : decode cX6_house 73 = .ok (.invokevirtual 188, 3) := by decide +kernel
theorem dX6_house_76 : decode cX6_house 76 = .ok (.ireturn, 1) := by decide +kernel
theorem dX6_house_77 : decode cX6_house 77 = .ok (.aload_n 0, 1) := by decide +kernel
theorem dX6_house_78 : decode cX6_house 78 = .ok (.getfield 10, 3) := by decide +kernel
theorem dX6_house_81 : decode cX6_house 81 = .ok (.getfield 80, 3) := by decide +kernel
theorem dX6_house_84 : decode cX6_house 84 = .ok (.iload_n 1, 1) := by decide +kernel
theorem dX6_house_85 : decode cX6_house 85 = .ok (.invokevirtual 191, 3) := by decide +kernel
theorem dX6_house_88 : decode cX6_house 88 = .ok (.ireturn, 1) := by decide +kernel
theorem dX6_house_89 : decode cX6_house 89 = .ok (.aload_n 0, 1) := by decide +kernel
theorem dX6_house_90 : decode cX6_house 90 = .ok (.getfield 10, 3) := by decide +kernel
theorem dX6_house_93 : decode cX6_house 93 = .ok (.getfield 80, 3) := by decide +kernel
theorem dX6_house_96 : decode cX6_house 96 = .ok (.iload_n 1, 1) := by decide +kernel
theorem dX6_house_97 : decode cX6_house 97 = .ok (.invokevirtual 194, 3) := by decide +kernel
theorem dX6_house_100 : decode cX6_house 100 = .ok (.ireturn, 1) := by decide +kernel
theorem dX6_house_101 : decode cX6_house 101 = .ok (.aload_n 0, 1) := by decide +kernel
theorem dX6_house_102 : decode cX6_house 102 = .ok (.getfield 10, 3) := by decide +kernel
theorem dX6_house_105 : decode cX6_house 105 = .ok (.getfield 46, 3) := by decide +kernel
theorem dX6_house_108 : decode cX6_house 108 = .ok (.iload_n 1, 1) := by decide +kernel
theorem dX6_house_109 : decode cX6_house 109 = .ok (.iload_n 2, 1) := by decide +kernel
theorem dX6_house_110 : decode cX6_house 110 = .ok (.invokevirtual 73, 3) := by decide +kernel
theorem dX6_house_113 : decode cX6_house 113 = .ok (.ireturn, 1) := by decide +kernel
theorem dX6_loan_0 : decode cX6_loan 0 = .ok (.aload_n 0, 1) := by decide +kernel
theorem dX6_loan_1 : decode cX6_loan 1 = .ok (.iload_n 1, 1) := by decide +kernel
theorem dX6_loan_2 : decode cX6_loan 2 = .ok (.invokevirtual 107, 3) := by decide +kernel
theorem dX6_loan_5 : decode cX6_loan 5 = .ok (.ifCond .eq 12, 3) := by decide +kernel
theorem dX6_loan_8 : decode cX6_loan 8 = .ok (.iload_n 2, 1) := by decide +kernel
theorem dX6_loan_9 : decode cX6_loan 9 = .ok (.iconst 0, 1) := by decide +kernel
theorem dX6_loan_10 : decode cX6_loan 10 = .ok (.iconst 2, 1) := by decide +kernel
theorem dX6_loan_11 : decode cX6_loan 11 = .ok (.invokestatic 41, 3) := by decide +kernel
theorem dX6_loan_14 : decode cX6_loan 14 = .ok (.ifCond .ne 6, 3) := by decide +kernel
theorem dX6_loan_17 : decode cX6_loan 17 = .ok (.ldc 45, 2) := by decide +kernel
theorem dX6_loan_19 : decode cX6_loan 19 = .ok (.ireturn, 1) := by decide +kernel
theorem dX6_loan_20 : decode cX6_loan 20 = .ok (.aload_n 0, 1) := by decide +kernel
theorem dX6_loan_21 : decode cX6_loan 21 = .ok (.getfield 10, 3) := by decide +kernel
theorem dX6_loan_24 : decode cX6_loan 24 = .ok (.getfield 80, 3) := by decide +kernel
theorem dX6_loan_27 : decode cX6_loan 27 = .ok (.iload_n 1, 1) := by decide +kernel
theorem dX6_loan_28 : decode cX6_loan 28 = .ok (.iload_n 2, 1) := by decide +kernel
theorem dX6_loan_29 : decode cX6_loan 29 = .ok (.invokevirtual 197, 3) := by decide +kernel
theorem dX6_loan_32 : decode cX6_loan 32 = .ok (.ireturn, 1) := by decide +kernel
theorem dX6_battery_0 : decode cX6_battery 0 = .ok (.iload_n 1, 1) := by decide +kernel
theorem dX6_battery_1 : decode cX6_battery 1 = .ok (.invokestatic 127, 3) := by decide +kernel
theorem dX6_battery_4 : decode cX6_battery 4 = .ok (.ifCond .eq 12, 3) := by decide +kernel
theorem dX6_battery_7 : decode cX6_battery 7 = .ok (.iload_n 2, 1) := by decide +kernel
theorem dX6_battery_8 : decode cX6_battery 8 = .ok (.iconst 0, 1) := by decide +kernel
theorem dX6_battery_9 : decode cX6_battery 9 = .ok (.iconst 4, 1) := by decide +kernel
theorem dX6_battery_10 : decode cX6_battery 10 = .ok (.invokestatic 41, 3) := by decide +kernel
theorem dX6_battery_13 : decode cX6_battery 13 = .ok (.ifCond .ne 6, 3) := by decide +kernel
theorem dX6_battery_16 : decode cX6_battery 16 = .ok (.ldc 45, 2) := by decide +kernel
theorem dX6_battery_18 : decode cX6_battery 18 = .ok (.ireturn, 1) := by decide +kernel
theorem dX6_battery_19 : decode cX6_battery 19 = .ok (.aload_n 0, 1) := by decide +kernel
theorem dX6_battery_20 : decode cX6_battery 20 = .ok (.getfield 10, 3) := by decide +kernel
theorem dX6_battery_23 : decode cX6_battery 23 = .ok (.getfield 136, 3) := by decide +kernel
theorem dX6_battery_26 : decode cX6_battery 26 = .ok (.iload_n 1, 1) := by decide +kernel
theorem dX6_battery_27 : decode cX6_battery 27 = .ok (.iload_n 2, 1) := by decide +kernel
theorem dX6_battery_28 : decode cX6_battery 28 = .ok (.invokevirtual 140, 3) := by decide +kernel
theorem dX6_battery_31 : decode cX6_battery 31 = .ok (.ireturn, 1) := by decide +kernel
theorem dX6_feeder_0 : decode cX6_feeder 0 = .ok (.iload_n 1, 1) := by decide +kernel
theorem dX6_feeder_1 : decode cX6_feeder 1 = .ok (.iconst 0, 1) := by decide +kernel
theorem dX6_feeder_2 : decode cX6_feeder 2 = .ok (.iconst 2, 1) := by decide +kernel
theorem dX6_feeder_3 : decode cX6_feeder 3 = .ok (.invokestatic 41, 3) := by decide +kernel
theorem dX6_feeder_6 : decode cX6_feeder 6 = .ok (.ifCond .eq 12, 3) := by decide +kernel
theorem dX6_feeder_9 : decode cX6_feeder 9 = .ok (.iload_n 2, 1) := by decide +kernel
theorem dX6_feeder_10 : decode cX6_feeder 10 = .ok (.iconst 0, 1) := by decide +kernel
theorem dX6_feeder_11 : decode cX6_feeder 11 = .ok (.iconst 4, 1) := by decide +kernel
theorem dX6_feeder_12 : decode cX6_feeder 12 = .ok (.invokestatic 41, 3) := by decide +kernel
theorem dX6_feeder_15 : decode cX6_feeder 15 = .ok (.ifCond .ne 6, 3) := by decide +kernel
theorem dX6_feeder_18 : decode cX6_feeder 18 = .ok (.ldc 45, 2) := by decide +kernel
theorem dX6_feeder_20 : decode cX6_feeder 20 = .ok (.ireturn, 1) := by decide +kernel
theorem dX6_feeder_21 : decode cX6_feeder 21 = .ok (.iload_n 2, 1) := by decide +kernel
theorem dX6_feeder_22 : decode cX6_feeder 22 = .ok (.tableswitch 95 0 3 #[30, 42, 63, 85], 30) := by decide +kernel
theorem dX6_feeder_52 : decode cX6_feeder 52 = .ok (.aload_n 0, 1) := by decide +kernel
theorem dX6_feeder_53 : decode cX6_feeder 53 = .ok (.getfield 10, 3) := by decide +kernel
theorem dX6_feeder_56 : decode cX6_feeder 56 = .ok (.getfield 46, 3) := by decide +kernel
theorem dX6_feeder_59 : decode cX6_feeder 59 = .ok (.iload_n 1, 1) := by decide +kernel
theorem dX6_feeder_60 : decode cX6_feeder 60 = .ok (.invokevirtual 198, 3) := by decide +kernel
theorem dX6_feeder_63 : decode cX6_feeder 63 = .ok (.ireturn, 1) := by decide +kernel
theorem dX6_feeder_64 : decode cX6_feeder 64 = .ok (.aload_n 0, 1) := by decide +kernel
theorem dX6_feeder_65 : decode cX6_feeder 65 = .ok (.getfield 10, 3) := by decide +kernel
theorem dX6_feeder_68 : decode cX6_feeder 68 = .ok (.getfield 46, 3) := by decide +kernel
theorem dX6_feeder_71 : decode cX6_feeder 71 = .ok (.iload_n 1, 1) := by decide +kernel
theorem dX6_feeder_72 : decode cX6_feeder 72 = .ok (.aload_n 0, 1) := by decide +kernel
theorem dX6_feeder_73 : decode cX6_feeder 73 = .ok (.getfield 10, 3) := by decide +kernel
theorem dX6_feeder_76 : decode cX6_feeder 76 = .ok (.getfield 124, 3) := by decide +kernel
theorem dX6_feeder_79 : decode cX6_feeder 79 = .ok (.iconst 0, 1) := by decide +kernel
theorem dX6_feeder_80 : decode cX6_feeder 80 = .ok (.iaload, 1) := by decide +kernel
theorem dX6_feeder_81 : decode cX6_feeder 81 = .ok (.invokevirtual 201, 3) := by decide +kernel
theorem dX6_feeder_84 : decode cX6_feeder 84 = .ok (.ireturn, 1) := by decide +kernel
theorem dX6_feeder_85 : decode cX6_feeder 85 = .ok (.aload_n 0, 1) := by decide +kernel
theorem dX6_feeder_86 : decode cX6_feeder 86 = .ok (.getfield 10, 3) := by decide +kernel
theorem dX6_feeder_89 : decode cX6_feeder 89 = .ok (.getfield 46, 3) := by decide +kernel
theorem dX6_feeder_92 : decode cX6_feeder 92 = .ok (.iload_n 1, 1) := by decide +kernel
theorem dX6_feeder_93 : decode cX6_feeder 93 = .ok (.aload_n 0, 1) := by decide +kernel
theorem dX6_feeder_94 : decode cX6_feeder 94 = .ok (.getfield 10, 3) := by decide +kernel
theorem dX6_feeder_97 : decode cX6_feeder 97 = .ok (.getfield 46, 3) := by decide +kernel
theorem dX6_feeder_100 : decode cX6_feeder 100 = .ok (.getfield 101, 3) := by decide +kernel
theorem dX6_feeder_103 : decode cX6_feeder 103 = .ok (.invokevirtual 204, 3) := by decide +kernel
theorem dX6_feeder_106 : decode cX6_feeder 106 = .ok (.ireturn, 1) := by decide +kernel
theorem dX6_feeder_107 : decode cX6_feeder 107 = .ok (.aload_n 0, 1) := by decide +kernel
theorem dX6_feeder_108 : decode cX6_feeder 108 = .ok (.getfield 10, 3) := by decide +kernel
theorem dX6_feeder_111 : decode cX6_feeder 111 = .ok (.getfield 208, 3) := by decide +kernel
theorem dX6_feeder_114 : decode cX6_feeder 114 = .ok (.iload_n 1, 1) := by decide +kernel
theorem dX6_feeder_115 : decode cX6_feeder 115 = .ok (.iaload, 1) := by decide +kernel
theorem dX6_feeder_116 : decode cX6_feeder 116 = .ok (.ireturn, 1) := by decide +kernel
theorem dX6_feeder_117 : decode cX6_feeder 117 = .ok (.aload_n 0, 1) := by decide +kernel
theorem dX6_feeder_118 : decode cX6_feeder 118 = .ok (.getfield 10, 3) := by decide +kernel
theorem dX6_feeder_121 : decode cX6_feeder 121 = .ok (.getfield 211, 3) := by decide +kernel
theorem dX6_feeder_124 : decode cX6_feeder 124 = .ok (.iload_n 1, 1) := by decide +kernel
theorem dX6_feeder_125 : decode cX6_feeder 125 = .ok (.iaload, 1) := by decide +kernel
theorem dX6_feeder_126 : decode cX6_feeder 126 = .ok (.ireturn, 1) := by decide +kernel
theorem dX6_account_0 : decode cX6_account 0 = .ok (.iload_n 1, 1) := by decide +kernel
theorem dX6_account_1 : decode cX6_account 1 = .ok (.iconst 0, 1) := by decide +kernel
theorem dX6_account_2 : decode cX6_account 2 = .ok (.bipush 7, 2) := by decide +kernel
theorem dX6_account_4 : decode cX6_account 4 = .ok (.invokestatic 41, 3) := by decide +kernel
theorem dX6_account_7 : decode cX6_account 7 = .ok (.ifCond .ne 6, 3) := by decide +kernel
theorem dX6_account_10 : decode cX6_account 10 = .ok (.ldc 45, 2) := by decide +kernel
theorem dX6_account_12 : decode cX6_account 12 = .ok (.ireturn, 1) := by decide +kernel
theorem dX6_account_13 : decode cX6_account 13 = .ok (.iload_n 1, 1) := by decide +kernel
theorem dX6_account_14 : decode cX6_account 14 = .ok (.iconst 5, 1) := by decide +kernel
theorem dX6_account_15 : decode cX6_account 15 = .ok (.if_icmp .ne 16, 3) := by decide +kernel
theorem dX6_account_18 : decode cX6_account 18 = .ok (.aload_n 0, 1) := by decide +kernel
theorem dX6_account_19 : decode cX6_account 19 = .ok (.getfield 10, 3) := by decide +kernel
theorem dX6_account_22 : decode cX6_account 22 = .ok (.getfield 136, 3) := by decide +kernel
theorem dX6_account_25 : decode cX6_account 25 = .ok (.invokevirtual 214, 3) := by decide +kernel
theorem dX6_account_28 : decode cX6_account 28 = .ok (.goto 12, 3) := by decide +kernel
theorem dX6_account_31 : decode cX6_account 31 = .ok (.aload_n 0, 1) := by decide +kernel
theorem dX6_account_32 : decode cX6_account 32 = .ok (.getfield 10, 3) := by decide +kernel
theorem dX6_account_35 : decode cX6_account 35 = .ok (.getfield 144, 3) := by decide +kernel
theorem dX6_account_38 : decode cX6_account 38 = .ok (.iload_n 1, 1) := by decide +kernel
theorem dX6_account_39 : decode cX6_account 39 = .ok (.iaload, 1) := by decide +kernel
theorem dX6_account_40 : decode cX6_account 40 = .ok (.ireturn, 1) := by decide +kernel
theorem dX6_count_0 : decode cX6_count 0 = .ok (.iload_n 1, 1) := by decide +kernel
theorem dX6_count_1 : decode cX6_count 1 = .ok (.tableswitch 142 0 7 #[47, 58, 69, 77, 85, 93, 101, 131], 47) := by decide +kernel
theorem dX6_count_48 : decode cX6_count 48 = .ok (.aload_n 0, 1) := by decide +kernel
theorem dX6_count_49 : decode cX6_count 49 = .ok (.getfield 10, 3) := by decide +kernel
theorem dX6_count_52 : decode cX6_count 52 = .ok (.getfield 46, 3) := by decide +kernel
theorem dX6_count_55 : decode cX6_count 55 = .ok (.getfield 50, 3) := by decide +kernel
theorem dX6_count_58 : decode cX6_count 58 = .ok (.ireturn, 1) := by decide +kernel
theorem dX6_count_59 : decode cX6_count 59 = .ok (.aload_n 0, 1) := by decide +kernel
theorem dX6_count_60 : decode cX6_count 60 = .ok (.getfield 10, 3) := by decide +kernel
theorem dX6_count_63 : decode cX6_count 63 = .ok (.getfield 80, 3) := by decide +kernel
theorem dX6_count_66 : decode cX6_count 66 = .ok (.getfield 104, 3) := by decide +kernel
theorem dX6_count_69 : decode cX6_count 69 = .ok (.ireturn, 1) := by decide +kernel
theorem dX6_count_70 : decode cX6_count 70 = .ok (.aload_n 0, 1) := by decide +kernel
theorem dX6_count_71 : decode cX6_count 71 = .ok (.getfield 10, 3) := by decide +kernel
theorem dX6_count_74 : decode cX6_count 74 = .ok (.getfield 185, 3) := by decide +kernel
theorem dX6_count_77 : decode cX6_count 77 = .ok (.ireturn, 1) := by decide +kernel
theorem dX6_count_78 : decode cX6_count 78 = .ok (.aload_n 0, 1) := by decide +kernel
theorem dX6_count_79 : decode cX6_count 79 = .ok (.getfield 10, 3) := by decide +kernel
theorem dX6_count_82 : decode cX6_count 82 = .ok (.getfield 172, 3) := by decide +kernel
theorem dX6_count_85 : decode cX6_count 85 = .ok (.ireturn, 1) := by decide +kernel
theorem dX6_count_86 : decode cX6_count 86 = .ok (.aload_n 0, 1) := by decide +kernel
theorem dX6_count_87 : decode cX6_count 87 = .ok (.getfield 10, 3) := by decide +kernel
theorem dX6_count_90 : decode cX6_count 90 = .ok (.getfield 220, 3) := by decide +kernel
theorem dX6_count_93 : decode cX6_count 93 = .ok (.ireturn, 1) := by decide +kernel
theorem dX6_count_94 : decode cX6_count 94 = .ok (.aload_n 0, 1) := by decide +kernel
theorem dX6_count_95 : decode cX6_count 95 = .ok (.getfield 22, 3) := by decide +kernel
theorem dX6_count_98 : decode cX6_count 98 = .ok (.getfield 175, 3) := by decide +kernel
theorem dX6_count_101 : decode cX6_count 101 = .ok (.ireturn, 1) := by decide +kernel
theorem dX6_count_102 : decode cX6_count 102 = .ok (.aload_n 0, 1) := by decide +kernel
theorem dX6_count_103 : decode cX6_count 103 = .ok (.getfield 30, 3) := by decide +kernel
theorem dX6_count_106 : decode cX6_count 106 = .ok (.iconst 0, 1) := by decide +kernel
theorem dX6_count_107 : decode cX6_count 107 = .ok (.baload, 1) := by decide +kernel
theorem dX6_count_108 : decode cX6_count 108 = .ok (.ifCond .eq 7, 3) := by decide +kernel
theorem dX6_count_111 : decode cX6_count 111 = .ok (.iconst 1, 1) := by decide +kernel
theorem dX6_count_112 : decode cX6_count 112 = .ok (.goto 4, 3) := by decide +kernel
theorem dX6_count_115 : decode cX6_count 115 = .ok (.iconst 0, 1) := by decide +kernel
theorem dX6_count_116 : decode cX6_count 116 = .ok (.aload_n 0, 1) := by decide +kernel
theorem dX6_count_117 : decode cX6_count 117 = .ok (.getfield 30, 3) := by decide +kernel
theorem dX6_count_120 : decode cX6_count 120 = .ok (.iconst 1, 1) := by decide +kernel
theorem dX6_count_121 : decode cX6_count 121 = .ok (.baload, 1) := by decide +kernel
theorem dX6_count_122 : decode cX6_count 122 = .ok (.ifCond .eq 7, 3) := by decide +kernel
theorem dX6_count_125 : decode cX6_count 125 = .ok (.iconst 2, 1) := by decide +kernel
theorem dX6_count_126 : decode cX6_count 126 = .ok (.goto 4, 3) := by decide +kernel
theorem dX6_count_129 : decode cX6_count 129 = .ok (.iconst 0, 1) := by decide +kernel
theorem dX6_count_130 : decode cX6_count 130 = .ok (.iadd, 1) := by decide +kernel
theorem dX6_count_131 : decode cX6_count 131 = .ok (.ireturn, 1) := by decide +kernel
theorem dX6_count_132 : decode cX6_count 132 = .ok (.aload_n 0, 1) := by decide +kernel
theorem dX6_count_133 : decode cX6_count 133 = .ok (.getfield 10, 3) := by decide +kernel
theorem dX6_count_136 : decode cX6_count 136 = .ok (.getfield 46, 3) := by decide +kernel
theorem dX6_count_139 : decode cX6_count 139 = .ok (.invokevirtual 223, 3) := by decide +kernel
theorem dX6_count_142 : decode cX6_count 142 = .ok (.ireturn, 1) := by decide +kernel
theorem dX6_count_143 : decode cX6_count 143 = .ok (.ldc 45, 2) := by decide +kernel
theorem dX6_count_145 : decode cX6_count 145 = .ok (.ireturn, 1) := by decide +kernel
theorem dX6_setting_0 : decode cX6_setting 0 = .ok (.iload_n 1, 1) := by decide +kernel
theorem dX6_setting_1 : decode cX6_setting 1 = .ok (.invokestatic 118, 3) := by decide +kernel
theorem dX6_setting_4 : decode cX6_setting 4 = .ok (.ifCond .eq 15, 3) := by decide +kernel
theorem dX6_setting_7 : decode cX6_setting 7 = .ok (.aload_n 0, 1) := by decide +kernel
theorem dX6_setting_8 : decode cX6_setting 8 = .ok (.getfield 10, 3) := by decide +kernel
theorem dX6_setting_11 : decode cX6_setting 11 = .ok (.getfield 124, 3) := by decide +kernel
theorem dX6_setting_14 : decode cX6_setting 14 = .ok (.iload_n 1, 1) := by decide +kernel
theorem dX6_setting_15 : decode cX6_setting 15 = .ok (.iaload, 1) := by decide +kernel
theorem dX6_setting_16 : decode cX6_setting 16 = .ok (.goto 5, 3) := by decide +kernel
theorem dX6_setting_19 : decode cX6_setting 19 = .ok (.ldc 45, 2) := by decide +kernel
theorem dX6_setting_21 : decode cX6_setting 21 = .ok (.ireturn, 1) := by decide +kernel
theorem dX6_met_0 : decode cX6_met 0 = .ok (.aload_n 0, 1) := by decide +kernel
theorem dX6_met_1 : decode cX6_met 1 = .ok (.getfield 10, 3) := by decide +kernel
theorem dX6_met_4 : decode cX6_met 4 = .ok (.getfield 46, 3) := by decide +kernel
theorem dX6_met_7 : decode cX6_met 7 = .ok (.aload_n 0, 1) := by decide +kernel
theorem dX6_met_8 : decode cX6_met 8 = .ok (.getfield 10, 3) := by decide +kernel
theorem dX6_met_11 : decode cX6_met 11 = .ok (.getfield 46, 3) := by decide +kernel
theorem dX6_met_14 : decode cX6_met 14 = .ok (.getfield 241, 3) := by decide +kernel
theorem dX6_met_17 : decode cX6_met 17 = .ok (.invokevirtual 244, 3) := by decide +kernel
theorem dX6_met_20 : decode cX6_met 20 = .ok (.istore_n 1, 1) := by decide +kernel
theorem dX6_met_21 : decode cX6_met 21 = .ok (.iload_n 1, 1) := by decide +kernel
theorem dX6_met_22 : decode cX6_met 22 = .ok (.ifCond .le 30, 3) := by decide +kernel
theorem dX6_met_25 : decode cX6_met 25 = .ok (.aload_n 0, 1) := by decide +kernel
theorem dX6_met_26 : decode cX6_met 26 = .ok (.getfield 10, 3) := by decide +kernel
theorem dX6_met_29 : decode cX6_met 29 = .ok (.getfield 46, 3) := by decide +kernel
theorem dX6_met_32 : decode cX6_met 32 = .ok (.aload_n 0, 1) := by decide +kernel
theorem dX6_met_33 : decode cX6_met 33 = .ok (.getfield 10, 3) := by decide +kernel
theorem dX6_met_36 : decode cX6_met 36 = .ok (.getfield 46, 3) := by decide +kernel
theorem dX6_met_39 : decode cX6_met 39 = .ok (.getfield 248, 3) := by decide +kernel
theorem dX6_met_42 : decode cX6_met 42 = .ok (.invokevirtual 244, 3) := by decide +kernel
theorem dX6_met_45 : decode cX6_met 45 = .ok (.i2d, 1) := by decide +kernel
theorem dX6_met_46 : decode cX6_met 46 = .ok (.iload_n 1, 1) := by decide +kernel
theorem dX6_met_47 : decode cX6_met 47 = .ok (.i2d, 1) := by decide +kernel
theorem dX6_met_48 : decode cX6_met 48 = .ok (.ddiv, 1) := by decide +kernel
theorem dX6_met_49 : decode cX6_met 49 = .ok (.goto 4, 3) := by decide +kernel
theorem dX6_met_52 : decode cX6_met 52 = .ok (.dconst 1, 1) := by decide +kernel
theorem dX6_met_53 : decode cX6_met 53 = .ok (.dreturn, 1) := by decide +kernel
theorem dX6_within_0 : decode cX6_within 0 = .ok (.iload_n 0, 1) := by decide +kernel
theorem dX6_within_1 : decode cX6_within 1 = .ok (.iload_n 1, 1) := by decide +kernel
theorem dX6_within_2 : decode cX6_within 2 = .ok (.if_icmp .lt 12, 3) := by decide +kernel
theorem dX6_within_5 : decode cX6_within 5 = .ok (.iload_n 0, 1) := by decide +kernel
theorem dX6_within_6 : decode cX6_within 6 = .ok (.iload_n 2, 1) := by decide +kernel
theorem dX6_within_7 : decode cX6_within 7 = .ok (.if_icmp .gt 7, 3) := by decide +kernel
theorem dX6_within_10 : decode cX6_within 10 = .ok (.iconst 1, 1) := by decide +kernel
theorem dX6_within_11 : decode cX6_within 11 = .ok (.goto 4, 3) := by decide +kernel
theorem dX6_within_14 : decode cX6_within 14 = .ok (.iconst 0, 1) := by decide +kernel
theorem dX6_within_15 : decode cX6_within 15 = .ok (.ireturn, 1) := by decide +kernel
theorem dX6_isHouse_0 : decode cX6_isHouse 0 = .ok (.iload_n 1, 1) := by decide +kernel
theorem dX6_isHouse_1 : decode cX6_isHouse 1 = .ok (.iconst 0, 1) := by decide +kernel
theorem dX6_isHouse_2 : decode cX6_isHouse 2 = .ok (.aload_n 0, 1) := by decide +kernel
theorem dX6_isHouse_3 : decode cX6_isHouse 3 = .ok (.getfield 10, 3) := by decide +kernel
theorem dX6_isHouse_6 : decode cX6_isHouse 6 = .ok (.getfield 46, 3) := by decide +kernel
theorem dX6_isHouse_9 : decode cX6_isHouse 9 = .ok (.getfield 50, 3) := by decide +kernel
theorem dX6_isHouse_12 : decode cX6_isHouse 12 = .ok (.iconst 1, 1) := by decide +kernel
theorem dX6_isHouse_13 : decode cX6_isHouse 13 = .ok (.isub, 1) := by decide +kernel
theorem dX6_isHouse_14 : decode cX6_isHouse 14 = .ok (.invokestatic 41, 3) := by decide +kernel
theorem dX6_isHouse_17 : decode cX6_isHouse 17 = .ok (.ireturn, 1) := by decide +kernel
theorem dX6_isLoan_0 : decode cX6_isLoan 0 = .ok (.iload_n 1, 1) := by decide +kernel
theorem dX6_isLoan_1 : decode cX6_isLoan 1 = .ok (.iconst 0, 1) := by decide +kernel
theorem dX6_isLoan_2 : decode cX6_isLoan 2 = .ok (.aload_n 0, 1) := by decide +kernel
theorem dX6_isLoan_3 : decode cX6_isLoan 3 = .ok (.getfield 10, 3) := by decide +kernel
theorem dX6_isLoan_6 : decode cX6_isLoan 6 = .ok (.getfield 80, 3) := by decide +kernel
theorem dX6_isLoan_9 : decode cX6_isLoan 9 = .ok (.getfield 104, 3) := by decide +kernel
theorem dX6_isLoan_12 : decode cX6_isLoan 12 = .ok (.iconst 1, 1) := by decide +kernel
theorem dX6_isLoan_13 : decode cX6_isLoan 13 = .ok (.isub, 1) := by decide +kernel
theorem dX6_isLoan_14 : decode cX6_isLoan 14 = .ok (.invokestatic 41, 3) := by decide +kernel
theorem dX6_isLoan_17 : decode cX6_isLoan 17 = .ok (.ireturn, 1) := by decide +kernel
theorem dX6_isBattery_0 : decode cX6_isBattery 0 = .ok (.iload_n 0, 1) := by decide +kernel
theorem dX6_isBattery_1 : decode cX6_isBattery 1 = .ok (.iconst 0, 1) := by decide +kernel
theorem dX6_isBattery_2 : decode cX6_isBattery 2 = .ok (.iconst 1, 1) := by decide +kernel
theorem dX6_isBattery_3 : decode cX6_isBattery 3 = .ok (.invokestatic 41, 3) := by decide +kernel
theorem dX6_isBattery_6 : decode cX6_isBattery 6 = .ok (.ireturn, 1) := by decide +kernel
theorem dX6_isSetting_0 : decode cX6_isSetting 0 = .ok (.iload_n 0, 1) := by decide +kernel
theorem dX6_isSetting_1 : decode cX6_isSetting 1 = .ok (.iconst 0, 1) := by decide +kernel
theorem dX6_isSetting_2 : decode cX6_isSetting 2 = .ok (.iconst 3, 1) := by decide +kernel
theorem dX6_isSetting_3 : decode cX6_isSetting 3 = .ok (.invokestatic 41, 3) := by decide +kernel
theorem dX6_isSetting_6 : decode cX6_isSetting 6 = .ok (.ireturn, 1) := by decide +kernel
theorem dL_cell_0 : decode cL_cell 0 = .ok (.iload_n 1, 1) := by decide +kernel
theorem dL_cell_1 : decode cL_cell 1 = .ok (.aload_n 0, 1) := by decide +kernel
theorem dL_cell_2 : decode cL_cell 2 = .ok (.arraylength, 1) := by decide +kernel
theorem dL_cell_3 : decode cL_cell 3 = .ok (.if_icmp .ge 9, 3) := by decide +kernel
theorem dL_cell_6 : decode cL_cell 6 = .ok (.aload_n 0, 1) := by decide +kernel
theorem dL_cell_7 : decode cL_cell 7 = .ok (.iload_n 1, 1) := by decide +kernel
theorem dL_cell_8 : decode cL_cell 8 = .ok (.iaload, 1) := by decide +kernel
theorem dL_cell_9 : decode cL_cell 9 = .ok (.goto 10, 3) := by decide +kernel
theorem dL_cell_12 : decode cL_cell 12 = .ok (.ldc 7, 2) := by decide +kernel
theorem dL_cell_14 : decode cL_cell 14 = .ok (.iload_n 1, 1) := by decide +kernel
theorem dL_cell_15 : decode cL_cell 15 = .ok (.bipush 97, 2) := by decide +kernel
theorem dL_cell_17 : decode cL_cell 17 = .ok (.iadd, 1) := by decide +kernel
theorem dL_cell_18 : decode cL_cell 18 = .ok (.imul, 1) := by decide +kernel
theorem dL_cell_19 : decode cL_cell 19 = .ok (.ireturn, 1) := by decide +kernel
theorem dL_at_0 : decode cL_at 0 = .ok (.iload_n 0, 1) := by decide +kernel
theorem dL_at_1 : decode cL_at 1 = .ok (.iconst 1, 1) := by decide +kernel
theorem dL_at_2 : decode cL_at 2 = .ok (.iushr, 1) := by decide +kernel
theorem dL_at_3 : decode cL_at 3 = .ok (.iload_n 1, 1) := by decide +kernel
theorem dL_at_4 : decode cL_at 4 = .ok (.irem, 1) := by decide +kernel
theorem dL_at_5 : decode cL_at 5 = .ok (.ireturn, 1) := by decide +kernel
theorem dL_draw_0 : decode cL_draw 0 = .ok (.bipush 6, 2) := by decide +kernel
theorem dL_draw_2 : decode cL_draw 2 = .ok (.iload_n 0, 1) := by decide +kernel
theorem dL_draw_3 : decode cL_draw 3 = .ok (.imul, 1) := by decide +kernel
theorem dL_draw_4 : decode cL_draw 4 = .ok (.istore_n 3, 1) := by decide +kernel
theorem dL_draw_5 : decode cL_draw 5 = .ok (.aload_n 2, 1) := by decide +kernel
theorem dL_draw_6 : decode cL_draw 6 = .ok (.iload_n 3, 1) := by decide +kernel
theorem dL_draw_7 : decode cL_draw 7 = .ok (.iconst 3, 1) := by decide +kernel
theorem dL_draw_8 : decode cL_draw 8 = .ok (.iadd, 1) := by decide +kernel
theorem dL_draw_9 : decode cL_draw 9 = .ok (.iaload, 1) := by decide +kernel
theorem dL_draw_10 : decode cL_draw 10 = .ok (.ifCond .eq 15, 3) := by decide +kernel
theorem dL_draw_13 : decode cL_draw 13 = .ok (.aload_n 2, 1) := by decide +kernel
theorem dL_draw_14 : decode cL_draw 14 = .ok (.iload_n 3, 1) := by decide +kernel
theorem dL_draw_15 : decode cL_draw 15 = .ok (.iconst 4, 1) := by decide +kernel
theorem dL_draw_16 : decode cL_draw 16 = .ok (.iadd, 1) := by decide +kernel
theorem dL_draw_17 : decode cL_draw 17 = .ok (.iaload, 1) := by decide +kernel
theorem dL_draw_18 : decode cL_draw 18 = .ok (.aload_n 1, 1) := by decide +kernel
theorem dL_draw_19 : decode cL_draw 19 = .ok (.iconst 4, 1) := by decide +kernel
theorem dL_draw_20 : decode cL_draw 20 = .ok (.iaload, 1) := by decide +kernel
theorem dL_draw_21 : decode cL_draw 21 = .ok (.iadd, 1) := by decide +kernel
theorem dL_draw_22 : decode cL_draw 22 = .ok (.ifCond .ge 5, 3) := by decide +kernel
theorem dL_draw_25 : decode cL_draw 25 = .ok (.iconst 0, 1) := by decide +kernel
theorem dL_draw_26 : decode cL_draw 26 = .ok (.ireturn, 1) := by decide +kernel
theorem dL_draw_27 : decode cL_draw 27 = .ok (.aload_n 2, 1) := by decide +kernel
theorem dL_draw_28 : decode cL_draw 28 = .ok (.iload_n 3, 1) := by decide +kernel
theorem dL_draw_29 : decode cL_draw 29 = .ok (.iconst 4, 1) := by decide +kernel
theorem dL_draw_30 : decode cL_draw 30 = .ok (.iadd, 1) := by decide +kernel
theorem dL_draw_31 : decode cL_draw 31 = .ok (.iaload, 1) := by decide +kernel
theorem dL_draw_32 : decode cL_draw 32 = .ok (.aload_n 1, 1) := by decide +kernel
theorem dL_draw_33 : decode cL_draw 33 = .ok (.iconst 4, 1) := by decide +kernel
theorem dL_draw_34 : decode cL_draw 34 = .ok (.iaload, 1) := by decide +kernel
theorem dL_draw_35 : decode cL_draw 35 = .ok (.iadd, 1) := by decide +kernel
theorem dL_draw_36 : decode cL_draw 36 = .ok (.aload_n 2, 1) := by decide +kernel
theorem dL_draw_37 : decode cL_draw 37 = .ok (.iload_n 3, 1) := by decide +kernel
theorem dL_draw_38 : decode cL_draw 38 = .ok (.iconst 1, 1) := by decide +kernel
theorem dL_draw_39 : decode cL_draw 39 = .ok (.iadd, 1) := by decide +kernel
theorem dL_draw_40 : decode cL_draw 40 = .ok (.iaload, 1) := by decide +kernel
theorem dL_draw_41 : decode cL_draw 41 = .ok (.if_icmp .ge 15, 3) := by decide +kernel
theorem dL_draw_44 : decode cL_draw 44 = .ok (.aload_n 2, 1) := by decide +kernel
theorem dL_draw_45 : decode cL_draw 45 = .ok (.iload_n 3, 1) := by decide +kernel
theorem dL_draw_46 : decode cL_draw 46 = .ok (.iconst 4, 1) := by decide +kernel
theorem dL_draw_47 : decode cL_draw 47 = .ok (.iadd, 1) := by decide +kernel
theorem dL_draw_48 : decode cL_draw 48 = .ok (.iaload, 1) := by decide +kernel
theorem dL_draw_49 : decode cL_draw 49 = .ok (.aload_n 1, 1) := by decide +kernel
theorem dL_draw_50 : decode cL_draw 50 = .ok (.iconst 4, 1) := by decide +kernel
theorem dL_draw_51 : decode cL_draw 51 = .ok (.iaload, 1) := by decide +kernel
theorem dL_draw_52 : decode cL_draw 52 = .ok (.iadd, 1) := by decide +kernel
theorem dL_draw_53 : decode cL_draw 53 = .ok (.goto 8, 3) := by decide +kernel
theorem dL_draw_56 : decode cL_draw 56 = .ok (.aload_n 2, 1) := by decide +kernel
theorem dL_draw_57 : decode cL_draw 57 = .ok (.iload_n 3, 1) := by decide +kernel
theorem dL_draw_58 : decode cL_draw 58 = .ok (.iconst 1, 1) := by decide +kernel
theorem dL_draw_59 : decode cL_draw 59 = .ok (.iadd, 1) := by decide +kernel
theorem dL_draw_60 : decode cL_draw 60 = .ok (.iaload, 1) := by decide +kernel
theorem dL_draw_61 : decode cL_draw 61 = .ok (.ireturn, 1) := by decide +kernel
theorem dL_give_0 : decode cL_give 0 = .ok (.aload_n 1, 1) := by decide +kernel
theorem dL_give_1 : decode cL_give 1 = .ok (.iconst 4, 1) := by decide +kernel
theorem dL_give_2 : decode cL_give 2 = .ok (.iload_n 0, 1) := by decide +kernel
theorem dL_give_3 : decode cL_give 3 = .ok (.imul, 1) := by decide +kernel
theorem dL_give_4 : decode cL_give 4 = .ok (.iconst 3, 1) := by decide +kernel
theorem dL_give_5 : decode cL_give 5 = .ok (.iadd, 1) := by decide +kernel
theorem dL_give_6 : decode cL_give 6 = .ok (.iaload, 1) := by decide +kernel
theorem dL_give_7 : decode cL_give 7 = .ok (.aload_n 1, 1) := by decide +kernel
theorem dL_give_8 : decode cL_give 8 = .ok (.iconst 4, 1) := by decide +kernel
theorem dL_give_9 : decode cL_give 9 = .ok (.iload_n 0, 1) := by decide +kernel
theorem dL_give_10 : decode cL_give 10 = .ok (.imul, 1) := by decide +kernel
theorem dL_give_11 : decode cL_give 11 = .ok (.iconst 1, 1) := by decide +kernel
theorem dL_give_12 : decode cL_give 12 = .ok (.iadd, 1) := by decide +kernel
theorem dL_give_13 : decode cL_give 13 = .ok (.iaload, 1) := by decide +kernel
theorem dL_give_14 : decode cL_give 14 = .ok (.if_icmp .le 13, 3) := by decide +kernel
theorem dL_give_17 : decode cL_give 17 = .ok (.aload_n 1, 1) := by decide +kernel
theorem dL_give_18 : decode cL_give 18 = .ok (.iconst 4, 1) := by decide +kernel
theorem dL_give_19 : decode cL_give 19 = .ok (.iload_n 0, 1) := by decide +kernel
theorem dL_give_20 : decode cL_give 20 = .ok (.imul, 1) := by decide +kernel
theorem dL_give_21 : decode cL_give 21 = .ok (.iconst 1, 1) := by decide +kernel
theorem dL_give_22 : decode cL_give 22 = .ok (.iadd, 1) := by decide +kernel
theorem dL_give_23 : decode cL_give 23 = .ok (.iaload, 1) := by decide +kernel
theorem dL_give_24 : decode cL_give 24 = .ok (.goto 10, 3) := by decide +kernel
theorem dL_give_27 : decode cL_give 27 = .ok (.aload_n 1, 1) := by decide +kernel
theorem dL_give_28 : decode cL_give 28 = .ok (.iconst 4, 1) := by decide +kernel
theorem dL_give_29 : decode cL_give 29 = .ok (.iload_n 0, 1) := by decide +kernel
theorem dL_give_30 : decode cL_give 30 = .ok (.imul, 1) := by decide +kernel
theorem dL_give_31 : decode cL_give 31 = .ok (.iconst 3, 1) := by decide +kernel
theorem dL_give_32 : decode cL_give 32 = .ok (.iadd, 1) := by decide +kernel
theorem dL_give_33 : decode cL_give 33 = .ok (.iaload, 1) := by decide +kernel
theorem dL_give_34 : decode cL_give 34 = .ok (.ireturn, 1) := by decide +kernel
theorem dL_wants_0 : decode cL_wants 0 = .ok (.iconst 0, 1) := by decide +kernel
theorem dL_wants_1 : decode cL_wants 1 = .ok (.istore 4, 2) := by decide +kernel
theorem dL_wants_3 : decode cL_wants 3 = .ok (.iconst 0, 1) := by decide +kernel
theorem dL_wants_4 : decode cL_wants 4 = .ok (.istore 5, 2) := by decide +kernel
theorem dL_wants_6 : decode cL_wants 6 = .ok (.iload 5, 2) := by decide +kernel
theorem dL_wants_8 : decode cL_wants 8 = .ok (.aload_n 2, 1) := by decide +kernel
theorem dL_wants_9 : decode cL_wants 9 = .ok (.iconst 0, 1) := by decide +kernel
theorem dL_wants_10 : decode cL_wants 10 = .ok (.iaload, 1) := by decide +kernel
theorem dL_wants_11 : decode cL_wants 11 = .ok (.if_icmp .ge 50, 3) := by decide +kernel
theorem dL_wants_14 : decode cL_wants 14 = .ok (.iload_n 0, 1) := by decide +kernel
theorem dL_wants_15 : decode cL_wants 15 = .ok (.ifCond .lt 14, 3) := by decide +kernel
theorem dL_wants_18 : decode cL_wants 18 = .ok (.aload_n 3, 1) := by decide +kernel
theorem dL_wants_19 : decode cL_wants 19 = .ok (.bipush 6, 2) := by decide +kernel
theorem dL_wants_21 : decode cL_wants 21 = .ok (.iload 5, 2) := by decide +kernel
theorem dL_wants_23 : decode cL_wants 23 = .ok (.imul, 1) := by decide +kernel
theorem dL_wants_24 : decode cL_wants 24 = .ok (.iaload, 1) := by decide +kernel
theorem dL_wants_25 : decode cL_wants 25 = .ok (.iload_n 0, 1) := by decide +kernel
theorem dL_wants_26 : decode cL_wants 26 = .ok (.if_icmp .ne 29, 3) := by decide +kernel
theorem dL_wants_29 : decode cL_wants 29 = .ok (.iload_n 1, 1) := by decide +kernel
theorem dL_wants_30 : decode cL_wants 30 = .ok (.aload_n 3, 1) := by decide +kernel
theorem dL_wants_31 : decode cL_wants 31 = .ok (.bipush 6, 2) := by decide +kernel
theorem dL_wants_33 : decode cL_wants 33 = .ok (.iload 5, 2) := by decide +kernel
theorem dL_wants_35 : decode cL_wants 35 = .ok (.imul, 1) := by decide +kernel
theorem dL_wants_36 : decode cL_wants 36 = .ok (.iaload, 1) := by decide +kernel
theorem dL_wants_37 : decode cL_wants 37 = .ok (.ishr, 1) := by decide +kernel
theorem dL_wants_38 : decode cL_wants 38 = .ok (.iconst 1, 1) := by decide +kernel
theorem dL_wants_39 : decode cL_wants 39 = .ok (.iand, 1) := by decide +kernel
theorem dL_wants_40 : decode cL_wants 40 = .ok (.ifCond .ne 15, 3) := by decide +kernel
theorem dL_wants_43 : decode cL_wants 43 = .ok (.iload 4, 2) := by decide +kernel
theorem dL_wants_45 : decode cL_wants 45 = .ok (.iload 5, 2) := by decide +kernel
theorem dL_wants_47 : decode cL_wants 47 = .ok (.aload_n 2, 1) := by decide +kernel
theorem dL_wants_48 : decode cL_wants 48 = .ok (.aload_n 3, 1) := by decide +kernel
theorem dL_wants_49 : decode cL_wants 49 = .ok (.invokestatic 8, 3) := by decide +kernel
theorem dL_wants_52 : decode cL_wants 52 = .ok (.iadd, 1) := by decide +kernel
theorem dL_wants_53 : decode cL_wants 53 = .ok (.istore 4, 2) := by decide +kernel
theorem dL_wants_55 : decode cL_wants 55 = .ok (.iinc 5 1, 3) := by decide +kernel
theorem dL_wants_58 : decode cL_wants 58 = .ok (.goto (-52), 3) := by decide +kernel
theorem dL_wants_61 : decode cL_wants 61 = .ok (.iload 4, 2) := by decide +kernel
theorem dL_wants_63 : decode cL_wants 63 = .ok (.ireturn, 1) := by decide +kernel
theorem dL_hour_0 : decode cL_hour 0 = .ok (.aload 4, 2) := by decide +kernel
theorem dL_hour_2 : decode cL_hour 2 = .ok (.aload_n 0, 1) := by decide +kernel
theorem dL_hour_3 : decode cL_hour 3 = .ok (.iconst 2, 1) := by decide +kernel
theorem dL_hour_4 : decode cL_hour 4 = .ok (.iaload, 1) := by decide +kernel
theorem dL_hour_5 : decode cL_hour 5 = .ok (.aload_n 0, 1) := by decide +kernel
theorem dL_hour_6 : decode cL_hour 6 = .ok (.bipush 15, 2) := by decide +kernel
theorem dL_hour_8 : decode cL_hour 8 = .ok (.iaload, 1) := by decide +kernel
theorem dL_hour_9 : decode cL_hour 9 = .ok (.irem, 1) := by decide +kernel
theorem dL_hour_10 : decode cL_hour 10 = .ok (.iaload, 1) := by decide +kernel
theorem dL_hour_11 : decode cL_hour 11 = .ok (.istore 5, 2) := by decide +kernel
theorem dL_hour_13 : decode cL_hour 13 = .ok (.iload 5, 2) := by decide +kernel
theorem dL_hour_15 : decode cL_hour 15 = .ok (.iconst 0, 1) := by decide +kernel
theorem dL_hour_16 : decode cL_hour 16 = .ok (.aload_n 3, 1) := by decide +kernel
theorem dL_hour_17 : decode cL_hour 17 = .ok (.invokestatic 14, 3) := by decide +kernel
theorem dL_hour_20 : decode cL_hour 20 = .ok (.iadd, 1) := by decide +kernel
theorem dL_hour_21 : decode cL_hour 21 = .ok (.iconst 1, 1) := by decide +kernel
theorem dL_hour_22 : decode cL_hour 22 = .ok (.aload_n 3, 1) := by decide +kernel
theorem dL_hour_23 : decode cL_hour 23 = .ok (.invokestatic 14, 3) := by decide +kernel
theorem dL_hour_26 : decode cL_hour 26 = .ok (.iadd, 1) := by decide +kernel
theorem dL_hour_27 : decode cL_hour 27 = .ok (.istore 6, 2) := by decide +kernel
theorem dL_hour_29 : decode cL_hour 29 = .ok (.iconst 0, 1) := by decide +kernel
theorem dL_hour_30 : decode cL_hour 30 = .ok (.istore 7, 2) := by decide +kernel
theorem dL_hour_32 : decode cL_hour 32 = .ok (.iconst 0, 1) := by decide +kernel
theorem dL_hour_33 : decode cL_hour 33 = .ok (.istore 8, 2) := by decide +kernel
theorem dL_hour_35 : decode cL_hour 35 = .ok (.iload 8, 2) := by decide +kernel
theorem dL_hour_37 : decode cL_hour 37 = .ok (.iconst 2, 1) := by decide +kernel
theorem dL_hour_38 : decode cL_hour 38 = .ok (.if_icmp .ge 60, 3) := by decide +kernel
theorem dL_hour_41 : decode cL_hour 41 = .ok (.iconst (-1), 1) := by decide +kernel
theorem dL_hour_42 : decode cL_hour 42 = .ok (.iload 7, 2) := by decide +kernel
theorem dL_hour_44 : decode cL_hour 44 = .ok (.aload_n 0, 1) := by decide +kernel
theorem dL_hour_45 : decode cL_hour 45 = .ok (.aload_n 1, 1) := by decide +kernel
theorem dL_hour_46 : decode cL_hour 46 = .ok (.invokestatic 18, 3) := by decide +kernel
theorem dL_hour_49 : decode cL_hour 49 = .ok (.iload 6, 2) := by decide +kernel
theorem dL_hour_51 : decode cL_hour 51 = .ok (.if_icmp .le 47, 3) := by decide +kernel
theorem dL_hour_54 : decode cL_hour 54 = .ok (.aload_n 0, 1) := by decide +kernel
theorem dL_hour_55 : decode cL_hour 55 = .ok (.iconst 3, 1) := by decide +kernel
theorem dL_hour_56 : decode cL_hour 56 = .ok (.iaload, 1) := by decide +kernel
theorem dL_hour_57 : decode cL_hour 57 = .ok (.iload 7, 2) := by decide +kernel
theorem dL_hour_59 : decode cL_hour 59 = .ok (.aload_n 0, 1) := by decide +kernel
theorem dL_hour_60 : decode cL_hour 60 = .ok (.aload_n 1, 1) := by decide +kernel
theorem dL_hour_61 : decode cL_hour 61 = .ok (.invokestatic 18, 3) := by decide +kernel
theorem dL_hour_64 : decode cL_hour 64 = .ok (.ifCond .le 13, 3) := by decide +kernel
theorem dL_hour_67 : decode cL_hour 67 = .ok (.iload 7, 2) := by decide +kernel
theorem dL_hour_69 : decode cL_hour 69 = .ok (.iconst 1, 1) := by decide +kernel
theorem dL_hour_70 : decode cL_hour 70 = .ok (.aload_n 0, 1) := by decide +kernel
theorem dL_hour_71 : decode cL_hour 71 = .ok (.iconst 3, 1) := by decide +kernel
theorem dL_hour_72 : decode cL_hour 72 = .ok (.iaload, 1) := by decide +kernel
theorem dL_hour_73 : decode cL_hour 73 = .ok (.ishl, 1) := by decide +kernel
theorem dL_hour_74 : decode cL_hour 74 = .ok (.ior, 1) := by decide +kernel
theorem dL_hour_75 : decode cL_hour 75 = .ok (.istore 7, 2) := by decide +kernel
theorem dL_hour_77 : decode cL_hour 77 = .ok (.aload_n 0, 1) := by decide +kernel
theorem dL_hour_78 : decode cL_hour 78 = .ok (.iconst 3, 1) := by decide +kernel
theorem dL_hour_79 : decode cL_hour 79 = .ok (.aload_n 0, 1) := by decide +kernel
theorem dL_hour_80 : decode cL_hour 80 = .ok (.iconst 3, 1) := by decide +kernel
theorem dL_hour_81 : decode cL_hour 81 = .ok (.iaload, 1) := by decide +kernel
theorem dL_hour_82 : decode cL_hour 82 = .ok (.iconst 1, 1) := by decide +kernel
theorem dL_hour_83 : decode cL_hour 83 = .ok (.if_icmp .ne 7, 3) := by decide +kernel
theorem dL_hour_86 : decode cL_hour 86 = .ok (.iconst 2, 1) := by decide +kernel
theorem dL_hour_87 : decode cL_hour 87 = .ok (.goto 4, 3) := by decide +kernel
theorem dL_hour_90 : decode cL_hour 90 = .ok (.iconst 1, 1) := by decide +kernel
theorem dL_hour_91 : decode cL_hour 91 = .ok (.iastore, 1) := by decide +kernel
theorem dL_hour_92 : decode cL_hour 92 = .ok (.iinc 8 1, 3) := by decide +kernel
theorem dL_hour_95 : decode cL_hour 95 = .ok (.goto (-60), 3) := by decide +kernel
theorem dL_hour_98 : decode cL_hour 98 = .ok (.iconst 1, 1) := by decide +kernel
theorem dL_hour_99 : decode cL_hour 99 = .ok (.istore 8, 2) := by decide +kernel
theorem dL_hour_101 : decode cL_hour 101 = .ok (.iload 8, 2) := by decide +kernel
theorem dL_hour_103 : decode cL_hour 103 = .ok (.iconst 3, 1) := by decide +kernel
theorem dL_hour_104 : decode cL_hour 104 = .ok (.if_icmp .ge 26, 3) := by decide +kernel
theorem dL_hour_107 : decode cL_hour 107 = .ok (.aload_n 0, 1) := by decide +kernel
theorem dL_hour_108 : decode cL_hour 108 = .ok (.bipush 16, 2) := by decide +kernel
theorem dL_hour_110 : decode cL_hour 110 = .ok (.iload 8, 2) := by decide +kernel
theorem dL_hour_112 : decode cL_hour 112 = .ok (.iadd, 1) := by decide +kernel
theorem dL_hour_113 : decode cL_hour 113 = .ok (.dup2, 1) := by decide +kernel
theorem dL_hour_114 : decode cL_hour 114 = .ok (.iaload, 1) := by decide +kernel
theorem dL_hour_115 : decode cL_hour 115 = .ok (.iload 7, 2) := by decide +kernel
theorem dL_hour_117 : decode cL_hour 117 = .ok (.iload 8, 2) := by decide +kernel
theorem dL_hour_119 : decode cL_hour 119 = .ok (.ishr, 1) := by decide +kernel
theorem dL_hour_120 : decode cL_hour 120 = .ok (.iconst 1, 1) := by decide +kernel
theorem dL_hour_121 : decode cL_hour 121 = .ok (.iand, 1) := by decide +kernel
theorem dL_hour_122 : decode cL_hour 122 = .ok (.iadd, 1) := by decide +kernel
theorem dL_hour_123 : decode cL_hour 123 = .ok (.iastore, 1) := by decide +kernel
theorem dL_hour_124 : decode cL_hour 124 = .ok (.iinc 8 1, 3) := by decide +kernel
theorem dL_hour_127 : decode cL_hour 127 = .ok (.goto (-26), 3) := by decide +kernel
theorem dL_hour_130 : decode cL_hour 130 = .ok (.aload_n 0, 1) := by decide +kernel
theorem dL_hour_131 : decode cL_hour 131 = .ok (.bipush 19, 2) := by decide +kernel
theorem dL_hour_133 : decode cL_hour 133 = .ok (.iload 7, 2) := by decide +kernel
theorem dL_hour_135 : decode cL_hour 135 = .ok (.iastore, 1) := by decide +kernel
theorem dL_hour_136 : decode cL_hour 136 = .ok (.iload 6, 2) := by decide +kernel
theorem dL_hour_138 : decode cL_hour 138 = .ok (.istore 8, 2) := by decide +kernel
theorem dL_hour_140 : decode cL_hour 140 = .ok (.iconst 0, 1) := by decide +kernel
theorem dL_hour_141 : decode cL_hour 141 = .ok (.istore 9, 2) := by decide +kernel
theorem dL_hour_143 : decode cL_hour 143 = .ok (.iload 9, 2) := by decide +kernel
theorem dL_hour_145 : decode cL_hour 145 = .ok (.iconst 3, 1) := by decide +kernel
theorem dL_hour_146 : decode cL_hour 146 = .ok (.if_icmp .ge 187, 3) := by decide +kernel
theorem dL_hour_149 : decode cL_hour 149 = .ok (.iconst 0, 1) := by decide +kernel
theorem dL_hour_150 : decode cL_hour 150 = .ok (.istore 10, 2) := by decide +kernel
theorem dL_hour_152 : decode cL_hour 152 = .ok (.iload 10, 2) := by decide +kernel
theorem dL_hour_154 : decode cL_hour 154 = .ok (.aload_n 0, 1) := by decide +kernel
theorem dL_hour_155 : decode cL_hour 155 = .ok (.iconst 0, 1) := by decide +kernel
theorem dL_hour_156 : decode cL_hour 156 = .ok (.iaload, 1) := by decide +kernel
theorem dL_hour_157 : decode cL_hour 157 = .ok (.if_icmp .ge 170, 3) := by decide +kernel
theorem dL_hour_160 : decode cL_hour 160 = .ok (.aload_n 1, 1) := by decide +kernel
theorem dL_hour_161 : decode cL_hour 161 = .ok (.bipush 6, 2) := by decide +kernel
theorem dL_hour_163 : decode cL_hour 163 = .ok (.iload 10, 2) := by decide +kernel
theorem dL_hour_165 : decode cL_hour 165 = .ok (.imul, 1) := by decide +kernel
theorem dL_hour_166 : decode cL_hour 166 = .ok (.iaload, 1) := by decide +kernel
theorem dL_hour_167 : decode cL_hour 167 = .ok (.iload 9, 2) := by decide +kernel
theorem dL_hour_169 : decode cL_hour 169 = .ok (.if_icmp .ne 152, 3) := by decide +kernel
theorem dL_hour_172 : decode cL_hour 172 = .ok (.iload 7, 2) := by decide +kernel
theorem dL_hour_174 : decode cL_hour 174 = .ok (.iload 9, 2) := by decide +kernel
theorem dL_hour_176 : decode cL_hour 176 = .ok (.ishr, 1) := by decide +kernel
theorem dL_hour_177 : decode cL_hour 177 = .ok (.iconst 1, 1) := by decide +kernel
theorem dL_hour_178 : decode cL_hour 178 = .ok (.iand, 1) := by decide +kernel
theorem dL_hour_179 : decode cL_hour 179 = .ok (.iconst 1, 1) := by decide +kernel
theorem dL_hour_180 : decode cL_hour 180 = .ok (.if_icmp .ne 7, 3) := by decide +kernel
theorem dL_hour_183 : decode cL_hour 183 = .ok (.iconst 0, 1) := by decide +kernel
theorem dL_hour_184 : decode cL_hour 184 = .ok (.goto 10, 3) := by decide +kernel
theorem dL_hour_187 : decode cL_hour 187 = .ok (.iload 10, 2) := by decide +kernel
theorem dL_hour_189 : decode cL_hour 189 = .ok (.aload_n 0, 1) := by decide +kernel
theorem dL_hour_190 : decode cL_hour 190 = .ok (.aload_n 1, 1) := by decide +kernel
theorem dL_hour_191 : decode cL_hour 191 = .ok (.invokestatic 8, 3) := by decide +kernel
theorem dL_hour_194 : decode cL_hour 194 = .ok (.istore 11, 2) := by decide +kernel
theorem dL_hour_196 : decode cL_hour 196 = .ok (.iload 8, 2) := by decide +kernel
theorem dL_hour_198 : decode cL_hour 198 = .ok (.iload 11, 2) := by decide +kernel
theorem dL_hour_200 : decode cL_hour 200 = .ok (.if_icmp .lt 8, 3) := by decide +kernel
theorem dL_hour_203 : decode cL_hour 203 = .ok (.iload 11, 2) := by decide +kernel
theorem dL_hour_205 : decode cL_hour 205 = .ok (.goto 24, 3) := by decide +kernel
theorem dL_hour_208 : decode cL_hour 208 = .ok (.bipush 100, 2) := by decide +kernel
theorem dL_hour_210 : decode cL_hour 210 = .ok (.iload 8, 2) := by decide +kernel
theorem dL_hour_212 : decode cL_hour 212 = .ok (.imul, 1) := by decide +kernel
theorem dL_hour_213 : decode cL_hour 213 = .ok (.iload 11, 2) := by decide +kernel
theorem dL_hour_215 : decode cL_hour 215 = .ok (.aload_n 0, 1) := by decide +kernel
theorem dL_hour_216 : decode cL_hour 216 = .ok (.bipush 7, 2) := by decide +kernel
theorem dL_hour_218 : decode cL_hour 218 = .ok (.iaload, 1) := by decide +kernel
theorem dL_hour_219 : decode cL_hour 219 = .ok (.imul, 1) := by decide +kernel
theorem dL_hour_220 : decode cL_hour 220 = .ok (.if_icmp .ge 7, 3) := by decide +kernel
theorem dL_hour_223 : decode cL_hour 223 = .ok (.iconst 0, 1) := by decide +kernel
theorem dL_hour_224 : decode cL_hour 224 = .ok (.goto 5, 3) := by decide +kernel
theorem dL_hour_227 : decode cL_hour 227 = .ok (.iload 8, 2) := by decide +kernel
theorem dL_hour_229 : decode cL_hour 229 = .ok (.istore 12, 2) := by decide +kernel
theorem dL_hour_231 : decode cL_hour 231 = .ok (.iload 8, 2) := by decide +kernel
theorem dL_hour_233 : decode cL_hour 233 = .ok (.iload 12, 2) := by decide +kernel
theorem dL_hour_235 : decode cL_hour 235 = .ok (.isub, 1) := by decide +kernel
theorem dL_hour_236 : decode cL_hour 236 = .ok (.istore 8, 2) := by decide +kernel
theorem dL_hour_238 : decode cL_hour 238 = .ok (.aload_n 2, 1) := by decide +kernel
theorem dL_hour_239 : decode cL_hour 239 = .ok (.iload 10, 2) := by decide +kernel
theorem dL_hour_241 : decode cL_hour 241 = .ok (.iload 12, 2) := by decide +kernel
theorem dL_hour_243 : decode cL_hour 243 = .ok (.iastore, 1) := by decide +kernel
theorem dL_hour_244 : decode cL_hour 244 = .ok (.aload_n 1, 1) := by decide +kernel
theorem dL_hour_245 : decode cL_hour 245 = .ok (.bipush 6, 2) := by decide +kernel
theorem dL_hour_247 : decode cL_hour 247 = .ok (.iload 10, 2) := by decide +kernel
theorem dL_hour_249 : decode cL_hour 249 = .ok (.imul, 1) := by decide +kernel
theorem dL_hour_250 : decode cL_hour 250 = .ok (.iconst 1, 1) := by decide +kernel
theorem dL_hour_251 : decode cL_hour 251 = .ok (.iadd, 1) := by decide +kernel
theorem dL_hour_252 : decode cL_hour 252 = .ok (.iaload, 1) := by decide +kernel
theorem dL_hour_253 : decode cL_hour 253 = .ok (.istore 13, 2) := by decide +kernel
theorem dL_hour_255 : decode cL_hour 255 = .ok (.aload_n 2, 1) := by decide +kernel
theorem dL_hour_256 : decode cL_hour 256 = .ok (.bipush 8, 2) := by decide +kernel
theorem dL_hour_258 : decode cL_hour 258 = .ok (.iload 10, 2) := by decide +kernel
theorem dL_hour_260 : decode cL_hour 260 = .ok (.iadd, 1) := by decide +kernel
theorem dL_hour_261 : decode cL_hour 261 = .ok (.iload 12, 2) := by decide +kernel
theorem dL_hour_263 : decode cL_hour 263 = .ok (.iload 13, 2) := by decide +kernel
theorem dL_hour_265 : decode cL_hour 265 = .ok (.if_icmp .ne 7, 3) := by decide +kernel
theorem dL_hour_268 : decode cL_hour 268 = .ok (.iconst 0, 1) := by decide +kernel
theorem dL_hour_269 : decode cL_hour 269 = .ok (.goto 51, 3) := by decide +kernel
theorem dL_hour_272 : decode cL_hour 272 = .ok (.aload_n 1, 1) := by decide +kernel
theorem dL_hour_273 : decode cL_hour 273 = .ok (.bipush 6, 2) := by decide +kernel
theorem dL_hour_275 : decode cL_hour 275 = .ok (.iload 10, 2) := by decide +kernel
theorem dL_hour_277 : decode cL_hour 277 = .ok (.imul, 1) := by decide +kernel
theorem dL_hour_278 : decode cL_hour 278 = .ok (.iconst 3, 1) := by decide +kernel
theorem dL_hour_279 : decode cL_hour 279 = .ok (.iadd, 1) := by decide +kernel
theorem dL_hour_280 : decode cL_hour 280 = .ok (.iaload, 1) := by decide +kernel
theorem dL_hour_281 : decode cL_hour 281 = .ok (.ifCond .ne 7, 3) := by decide +kernel
theorem dL_hour_284 : decode cL_hour 284 = .ok (.iconst 1, 1) := by decide +kernel
theorem dL_hour_285 : decode cL_hour 285 = .ok (.goto 35, 3) := by decide +kernel
theorem dL_hour_288 : decode cL_hour 288 = .ok (.iload 10, 2) := by decide +kernel
theorem dL_hour_290 : decode cL_hour 290 = .ok (.aload_n 0, 1) := by decide +kernel
theorem dL_hour_291 : decode cL_hour 291 = .ok (.aload_n 1, 1) := by decide +kernel
theorem dL_hour_292 : decode cL_hour 292 = .ok (.invokestatic 8, 3) := by decide +kernel
theorem dL_hour_295 : decode cL_hour 295 = .ok (.iload 13, 2) := by decide +kernel
theorem dL_hour_297 : decode cL_hour 297 = .ok (.if_icmp .ge 7, 3) := by decide +kernel
theorem dL_hour_300 : decode cL_hour 300 = .ok (.iconst 2, 1) := by decide +kernel
theorem dL_hour_301 : decode cL_hour 301 = .ok (.goto 19, 3) := by decide +kernel
theorem dL_hour_304 : decode cL_hour 304 = .ok (.iload 7, 2) := by decide +kernel
theorem dL_hour_306 : decode cL_hour 306 = .ok (.iload 9, 2) := by decide +kernel
theorem dL_hour_308 : decode cL_hour 308 = .ok (.ishr, 1) := by decide +kernel
theorem dL_hour_309 : decode cL_hour 309 = .ok (.iconst 1, 1) := by decide +kernel
theorem dL_hour_310 : decode cL_hour 310 = .ok (.iand, 1) := by decide +kernel
theorem dL_hour_311 : decode cL_hour 311 = .ok (.iconst 1, 1) := by decide +kernel
theorem dL_hour_312 : decode cL_hour 312 = .ok (.if_icmp .ne 7, 3) := by decide +kernel
theorem dL_hour_315 : decode cL_hour 315 = .ok (.iconst 3, 1) := by decide +kernel
theorem dL_hour_316 : decode cL_hour 316 = .ok (.goto 4, 3) := by decide +kernel
theorem dL_hour_319 : decode cL_hour 319 = .ok (.iconst 4, 1) := by decide +kernel
theorem dL_hour_320 : decode cL_hour 320 = .ok (.iastore, 1) := by decide +kernel
theorem dL_hour_321 : decode cL_hour 321 = .ok (.iinc 10 1, 3) := by decide +kernel
theorem dL_hour_324 : decode cL_hour 324 = .ok (.goto (-172), 3) := by decide +kernel
theorem dL_hour_327 : decode cL_hour 327 = .ok (.iinc 9 1, 3) := by decide +kernel
theorem dL_hour_330 : decode cL_hour 330 = .ok (.goto (-187), 3) := by decide +kernel
theorem dL_hour_333 : decode cL_hour 333 = .ok (.iload 6, 2) := by decide +kernel
theorem dL_hour_335 : decode cL_hour 335 = .ok (.iload 8, 2) := by decide +kernel
theorem dL_hour_337 : decode cL_hour 337 = .ok (.isub, 1) := by decide +kernel
theorem dL_hour_338 : decode cL_hour 338 = .ok (.istore 9, 2) := by decide +kernel
theorem dL_hour_340 : decode cL_hour 340 = .ok (.iconst 0, 1) := by decide +kernel
theorem dL_hour_341 : decode cL_hour 341 = .ok (.istore 10, 2) := by decide +kernel
theorem dL_hour_343 : decode cL_hour 343 = .ok (.iload 10, 2) := by decide +kernel
theorem dL_hour_345 : decode cL_hour 345 = .ok (.aload_n 0, 1) := by decide +kernel
theorem dL_hour_346 : decode cL_hour 346 = .ok (.iconst 0, 1) := by decide +kernel
theorem dL_hour_347 : decode cL_hour 347 = .ok (.iaload, 1) := by decide +kernel
theorem dL_hour_348 : decode cL_hour 348 = .ok (.if_icmp .ge 41, 3) := by decide +kernel
theorem dL_hour_351 : decode cL_hour 351 = .ok (.aload_n 1, 1) := by decide +kernel
theorem dL_hour_352 : decode cL_hour 352 = .ok (.bipush 6, 2) := by decide +kernel
theorem dL_hour_354 : decode cL_hour 354 = .ok (.iload 10, 2) := by decide +kernel
theorem dL_hour_356 : decode cL_hour 356 = .ok (.imul, 1) := by decide +kernel
theorem dL_hour_357 : decode cL_hour 357 = .ok (.iconst 4, 1) := by decide +kernel
theorem dL_hour_358 : decode cL_hour 358 = .ok (.iadd, 1) := by decide +kernel
theorem dL_hour_359 : decode cL_hour 359 = .ok (.dup2, 1) := by decide +kernel
theorem dL_hour_360 : decode cL_hour 360 = .ok (.iaload, 1) := by decide +kernel
theorem dL_hour_361 : decode cL_hour 361 = .ok (.aload_n 2, 1) := by decide +kernel
theorem dL_hour_362 : decode cL_hour 362 = .ok (.iload 10, 2) := by decide +kernel
theorem dL_hour_364 : decode cL_hour 364 = .ok (.iaload, 1) := by decide +kernel
theorem dL_hour_365 : decode cL_hour 365 = .ok (.isub, 1) := by decide +kernel
theorem dL_hour_366 : decode cL_hour 366 = .ok (.iastore, 1) := by decide +kernel
theorem dL_hour_367 : decode cL_hour 367 = .ok (.aload_n 1, 1) := by decide +kernel
theorem dL_hour_368 : decode cL_hour 368 = .ok (.bipush 6, 2) := by decide +kernel
theorem dL_hour_370 : decode cL_hour 370 = .ok (.iload 10, 2) := by decide +kernel
theorem dL_hour_372 : decode cL_hour 372 = .ok (.imul, 1) := by decide +kernel
theorem dL_hour_373 : decode cL_hour 373 = .ok (.iconst 5, 1) := by decide +kernel
theorem dL_hour_374 : decode cL_hour 374 = .ok (.iadd, 1) := by decide +kernel
theorem dL_hour_375 : decode cL_hour 375 = .ok (.dup2, 1) := by decide +kernel
theorem dL_hour_376 : decode cL_hour 376 = .ok (.iaload, 1) := by decide +kernel
theorem dL_hour_377 : decode cL_hour 377 = .ok (.aload_n 2, 1) := by decide +kernel
theorem dL_hour_378 : decode cL_hour 378 = .ok (.iload 10, 2) := by decide +kernel
theorem dL_hour_380 : decode cL_hour 380 = .ok (.iaload, 1) := by decide +kernel
theorem dL_hour_381 : decode cL_hour 381 = .ok (.iadd, 1) := by decide +kernel
theorem dL_hour_382 : decode cL_hour 382 = .ok (.iastore, 1) := by decide +kernel
theorem dL_hour_383 : decode cL_hour 383 = .ok (.iinc 10 1, 3) := by decide +kernel
theorem dL_hour_386 : decode cL_hour 386 = .ok (.goto (-43), 3) := by decide +kernel
theorem dL_hour_389 : decode cL_hour 389 = .ok (.iload 5, 2) := by decide +kernel
theorem dL_hour_391 : decode cL_hour 391 = .ok (.iload 9, 2) := by decide +kernel
theorem dL_hour_393 : decode cL_hour 393 = .ok (.isub, 1) := by decide +kernel
theorem dL_hour_394 : decode cL_hour 394 = .ok (.istore 10, 2) := by decide +kernel
theorem dL_hour_396 : decode cL_hour 396 = .ok (.iconst 0, 1) := by decide +kernel
theorem dL_hour_397 : decode cL_hour 397 = .ok (.istore 11, 2) := by decide +kernel
theorem dL_hour_399 : decode cL_hour 399 = .ok (.iload 11, 2) := by decide +kernel
theorem dL_hour_401 : decode cL_hour 401 = .ok (.iconst 2, 1) := by decide +kernel
theorem dL_hour_402 : decode cL_hour 402 = .ok (.if_icmp .ge 174, 3) := by decide +kernel
theorem dL_hour_405 : decode cL_hour 405 = .ok (.iconst 4, 1) := by decide +kernel
theorem dL_hour_406 : decode cL_hour 406 = .ok (.iload 11, 2) := by decide +kernel
theorem dL_hour_408 : decode cL_hour 408 = .ok (.imul, 1) := by decide +kernel
theorem dL_hour_409 : decode cL_hour 409 = .ok (.istore 12, 2) := by decide +kernel
theorem dL_hour_411 : decode cL_hour 411 = .ok (.iload 9, 2) := by decide +kernel
theorem dL_hour_413 : decode cL_hour 413 = .ok (.iload 5, 2) := by decide +kernel
theorem dL_hour_415 : decode cL_hour 415 = .ok (.if_icmp .le 50, 3) := by decide +kernel
theorem dL_hour_418 : decode cL_hour 418 = .ok (.iload 11, 2) := by decide +kernel
theorem dL_hour_420 : decode cL_hour 420 = .ok (.aload_n 3, 1) := by decide +kernel
theorem dL_hour_421 : decode cL_hour 421 = .ok (.invokestatic 14, 3) := by decide +kernel
theorem dL_hour_424 : decode cL_hour 424 = .ok (.iload 10, 2) := by decide +kernel
theorem dL_hour_426 : decode cL_hour 426 = .ok (.ineg, 1) := by decide +kernel
theorem dL_hour_427 : decode cL_hour 427 = .ok (.if_icmp .ge 12, 3) := by decide +kernel
theorem dL_hour_430 : decode cL_hour 430 = .ok (.iload 11, 2) := by decide +kernel
theorem dL_hour_432 : decode cL_hour 432 = .ok (.aload_n 3, 1) := by decide +kernel
theorem dL_hour_433 : decode cL_hour 433 = .ok (.invokestatic 14, 3) := by decide +kernel
theorem dL_hour_436 : decode cL_hour 436 = .ok (.goto 6, 3) := by decide +kernel
theorem dL_hour_439 : decode cL_hour 439 = .ok (.iload 10, 2) := by decide +kernel
theorem dL_hour_441 : decode cL_hour 441 = .ok (.ineg, 1) := by decide +kernel
theorem dL_hour_442 : decode cL_hour 442 = .ok (.istore 13, 2) := by decide +kernel
theorem dL_hour_444 : decode cL_hour 444 = .ok (.aload_n 3, 1) := by decide +kernel
theorem dL_hour_445 : decode cL_hour 445 = .ok (.iload 12, 2) := by decide +kernel
theorem dL_hour_447 : decode cL_hour 447 = .ok (.iconst 3, 1) := by decide +kernel
theorem dL_hour_448 : decode cL_hour 448 = .ok (.iadd, 1) := by decide +kernel
theorem dL_hour_449 : decode cL_hour 449 = .ok (.dup2, 1) := by decide +kernel
theorem dL_hour_450 : decode cL_hour 450 = .ok (.iaload, 1) := by decide +kernel
theorem dL_hour_451 : decode cL_hour 451 = .ok (.iload 13, 2) := by decide +kernel
theorem dL_hour_453 : decode cL_hour 453 = .ok (.isub, 1) := by decide +kernel
theorem dL_hour_454 : decode cL_hour 454 = .ok (.iastore, 1) := by decide +kernel
theorem dL_hour_455 : decode cL_hour 455 = .ok (.iload 10, 2) := by decide +kernel
theorem dL_hour_457 : decode cL_hour 457 = .ok (.iload 13, 2) := by decide +kernel
theorem dL_hour_459 : decode cL_hour 459 = .ok (.iadd, 1) := by decide +kernel
theorem dL_hour_460 : decode cL_hour 460 = .ok (.istore 10, 2) := by decide +kernel
theorem dL_hour_462 : decode cL_hour 462 = .ok (.goto 108, 3) := by decide +kernel
theorem dL_hour_465 : decode cL_hour 465 = .ok (.iconst 0, 1) := by decide +kernel
theorem dL_hour_466 : decode cL_hour 466 = .ok (.istore 13, 2) := by decide +kernel
theorem dL_hour_468 : decode cL_hour 468 = .ok (.iload 13, 2) := by decide +kernel
theorem dL_hour_470 : decode cL_hour 470 = .ok (.iload 10, 2) := by decide +kernel
theorem dL_hour_472 : decode cL_hour 472 = .ok (.if_icmp .ge 48, 3) := by decide +kernel
theorem dL_hour_475 : decode cL_hour 475 = .ok (.iload 13, 2) := by decide +kernel
theorem dL_hour_477 : decode cL_hour 477 = .ok (.aload_n 3, 1) := by decide +kernel
theorem dL_hour_478 : decode cL_hour 478 = .ok (.iload 12, 2) := by decide +kernel
theorem dL_hour_480 : decode cL_hour 480 = .ok (.iconst 1, 1) := by decide +kernel
theorem dL_hour_481 : decode cL_hour 481 = .ok (.iadd, 1) := by decide +kernel
theorem dL_hour_482 : decode cL_hour 482 = .ok (.iaload, 1) := by decide +kernel
theorem dL_hour_483 : decode cL_hour 483 = .ok (.if_icmp .ge 37, 3) := by decide +kernel
theorem dL_hour_486 : decode cL_hour 486 = .ok (.aload_n 3, 1) := by decide +kernel
theorem dL_hour_487 : decode cL_hour 487 = .ok (.iload 12, 2) := by decide +kernel
theorem dL_hour_489 : decode cL_hour 489 = .ok (.iconst 3, 1) := by decide +kernel
theorem dL_hour_490 : decode cL_hour 490 = .ok (.iadd, 1) := by decide +kernel
theorem dL_hour_491 : decode cL_hour 491 = .ok (.iaload, 1) := by decide +kernel
theorem dL_hour_492 : decode cL_hour 492 = .ok (.iload 13, 2) := by decide +kernel
theorem dL_hour_494 : decode cL_hour 494 = .ok (.iconst 1, 1) := by decide +kernel
theorem dL_hour_495 : decode cL_hour 495 = .ok (.iadd, 1) := by decide +kernel
theorem dL_hour_496 : decode cL_hour 496 = .ok (.aload_n 3, 1) := by decide +kernel
theorem dL_hour_497 : decode cL_hour 497 = .ok (.iload 12, 2) := by decide +kernel
theorem dL_hour_499 : decode cL_hour 499 = .ok (.iconst 2, 1) := by decide +kernel
theorem dL_hour_500 : decode cL_hour 500 = .ok (.iadd, 1) := by decide +kernel
theorem dL_hour_501 : decode cL_hour 501 = .ok (.iaload, 1) := by decide +kernel
theorem dL_hour_502 : decode cL_hour 502 = .ok (.imul, 1) := by decide +kernel
theorem dL_hour_503 : decode cL_hour 503 = .ok (.bipush 100, 2) := by decide +kernel
theorem dL_hour_505 : decode cL_hour 505 = .ok (.idiv, 1) := by decide +kernel
theorem dL_hour_506 : decode cL_hour 506 = .ok (.iadd, 1) := by decide +kernel
theorem dL_hour_507 : decode cL_hour 507 = .ok (.aload_n 3, 1) := by decide +kernel
theorem dL_hour_508 : decode cL_hour 508 = .ok (.iload 12, 2) := by decide +kernel
theorem dL_hour_510 : decode cL_hour 510 = .ok (.iaload, 1) := by decide +kernel
theorem dL_hour_511 : decode cL_hour 511 = .ok (.if_icmp .gt 9, 3) := by decide +kernel
theorem dL_hour_514 : decode cL_hour 514 = .ok (.iinc 13 1, 3) := by decide +kernel
theorem dL_hour_517 : decode cL_hour 517 = .ok (.goto (-49), 3) := by decide +kernel
theorem dL_hour_520 : decode cL_hour 520 = .ok (.iload 10, 2) := by decide +kernel
theorem dL_hour_522 : decode cL_hour 522 = .ok (.iload 13, 2) := by decide +kernel
theorem dL_hour_524 : decode cL_hour 524 = .ok (.isub, 1) := by decide +kernel
theorem dL_hour_525 : decode cL_hour 525 = .ok (.istore 10, 2) := by decide +kernel
theorem dL_hour_527 : decode cL_hour 527 = .ok (.aload_n 3, 1) := by decide +kernel
theorem dL_hour_528 : decode cL_hour 528 = .ok (.iload 12, 2) := by decide +kernel
theorem dL_hour_530 : decode cL_hour 530 = .ok (.iconst 3, 1) := by decide +kernel
theorem dL_hour_531 : decode cL_hour 531 = .ok (.iadd, 1) := by decide +kernel
theorem dL_hour_532 : decode cL_hour 532 = .ok (.dup2, 1) := by decide +kernel
theorem dL_hour_533 : decode cL_hour 533 = .ok (.iaload, 1) := by decide +kernel
theorem dL_hour_534 : decode cL_hour 534 = .ok (.iload 13, 2) := by decide +kernel
theorem dL_hour_536 : decode cL_hour 536 = .ok (.aload_n 3, 1) := by decide +kernel
theorem dL_hour_537 : decode cL_hour 537 = .ok (.iload 12, 2) := by decide +kernel
theorem dL_hour_539 : decode cL_hour 539 = .ok (.iconst 2, 1) := by decide +kernel
theorem dL_hour_540 : decode cL_hour 540 = .ok (.iadd, 1) := by decide +kernel
theorem dL_hour_541 : decode cL_hour 541 = .ok (.iaload, 1) := by decide +kernel
theorem dL_hour_542 : decode cL_hour 542 = .ok (.imul, 1) := by decide +kernel
theorem dL_hour_543 : decode cL_hour 543 = .ok (.bipush 100, 2) := by decide +kernel
theorem dL_hour_545 : decode cL_hour 545 = .ok (.idiv, 1) := by decide +kernel
theorem dL_hour_546 : decode cL_hour 546 = .ok (.iadd, 1) := by decide +kernel
theorem dL_hour_547 : decode cL_hour 547 = .ok (.iastore, 1) := by decide +kernel
theorem dL_hour_548 : decode cL_hour 548 = .ok (.aload_n 0, 1) := by decide +kernel
theorem dL_hour_549 : decode cL_hour 549 = .ok (.bipush 10, 2) := by decide +kernel
theorem dL_hour_551 : decode cL_hour 551 = .ok (.dup2, 1) := by decide +kernel
theorem dL_hour_552 : decode cL_hour 552 = .ok (.iaload, 1) := by decide +kernel
theorem dL_hour_553 : decode cL_hour 553 = .ok (.iload 13, 2) := by decide +kernel
theorem dL_hour_555 : decode cL_hour 555 = .ok (.iload 13, 2) := by decide +kernel
theorem dL_hour_557 : decode cL_hour 557 = .ok (.aload_n 3, 1) := by decide +kernel
theorem dL_hour_558 : decode cL_hour 558 = .ok (.iload 12, 2) := by decide +kernel
theorem dL_hour_560 : decode cL_hour 560 = .ok (.iconst 2, 1) := by decide +kernel
theorem dL_hour_561 : decode cL_hour 561 = .ok (.iadd, 1) := by decide +kernel
theorem dL_hour_562 : decode cL_hour 562 = .ok (.iaload, 1) := by decide +kernel
theorem dL_hour_563 : decode cL_hour 563 = .ok (.imul, 1) := by decide +kernel
theorem dL_hour_564 : decode cL_hour 564 = .ok (.bipush 100, 2) := by decide +kernel
theorem dL_hour_566 : decode cL_hour 566 = .ok (.idiv, 1) := by decide +kernel
theorem dL_hour_567 : decode cL_hour 567 = .ok (.isub, 1) := by decide +kernel
theorem dL_hour_568 : decode cL_hour 568 = .ok (.iadd, 1) := by decide +kernel
theorem dL_hour_569 : decode cL_hour 569 = .ok (.iastore, 1) := by decide +kernel
theorem dL_hour_570 : decode cL_hour 570 = .ok (.iinc 11 1, 3) := by decide +kernel
theorem dL_hour_573 : decode cL_hour 573 = .ok (.goto (-174), 3) := by decide +kernel
theorem dL_hour_576 : decode cL_hour 576 = .ok (.aload_n 0, 1) := by decide +kernel
theorem dL_hour_577 : decode cL_hour 577 = .ok (.bipush 8, 2) := by decide +kernel
theorem dL_hour_579 : decode cL_hour 579 = .ok (.dup2, 1) := by decide +kernel
theorem dL_hour_580 : decode cL_hour 580 = .ok (.iaload, 1) := by decide +kernel
theorem dL_hour_581 : decode cL_hour 581 = .ok (.iload 5, 2) := by decide +kernel
theorem dL_hour_583 : decode cL_hour 583 = .ok (.iadd, 1) := by decide +kernel
theorem dL_hour_584 : decode cL_hour 584 = .ok (.iastore, 1) := by decide +kernel
theorem dL_hour_585 : decode cL_hour 585 = .ok (.aload_n 0, 1) := by decide +kernel
theorem dL_hour_586 : decode cL_hour 586 = .ok (.bipush 9, 2) := by decide +kernel
theorem dL_hour_588 : decode cL_hour 588 = .ok (.dup2, 1) := by decide +kernel
theorem dL_hour_589 : decode cL_hour 589 = .ok (.iaload, 1) := by decide +kernel
theorem dL_hour_590 : decode cL_hour 590 = .ok (.iload 9, 2) := by decide +kernel
theorem dL_hour_592 : decode cL_hour 592 = .ok (.iadd, 1) := by decide +kernel
theorem dL_hour_593 : decode cL_hour 593 = .ok (.iastore, 1) := by decide +kernel
theorem dL_hour_594 : decode cL_hour 594 = .ok (.aload_n 0, 1) := by decide +kernel
theorem dL_hour_595 : decode cL_hour 595 = .ok (.bipush 11, 2) := by decide +kernel
theorem dL_hour_597 : decode cL_hour 597 = .ok (.dup2, 1) := by decide +kernel
theorem dL_hour_598 : decode cL_hour 598 = .ok (.iaload, 1) := by decide +kernel
theorem dL_hour_599 : decode cL_hour 599 = .ok (.iload 10, 2) := by decide +kernel
theorem dL_hour_601 : decode cL_hour 601 = .ok (.iadd, 1) := by decide +kernel
theorem dL_hour_602 : decode cL_hour 602 = .ok (.iastore, 1) := by decide +kernel
theorem dL_hour_603 : decode cL_hour 603 = .ok (.aload_n 0, 1) := by decide +kernel
theorem dL_hour_604 : decode cL_hour 604 = .ok (.iconst 2, 1) := by decide +kernel
theorem dL_hour_605 : decode cL_hour 605 = .ok (.dup2, 1) := by decide +kernel
theorem dL_hour_606 : decode cL_hour 606 = .ok (.iaload, 1) := by decide +kernel
theorem dL_hour_607 : decode cL_hour 607 = .ok (.iconst 1, 1) := by decide +kernel
theorem dL_hour_608 : decode cL_hour 608 = .ok (.iadd, 1) := by decide +kernel
theorem dL_hour_609 : decode cL_hour 609 = .ok (.iastore, 1) := by decide +kernel
theorem dL_hour_610 : decode cL_hour 610 = .ok (.return_, 1) := by decide +kernel
theorem dL_owes_0 : decode cL_owes 0 = .ok (.iconst 0, 1) := by decide +kernel
theorem dL_owes_1 : decode cL_owes 1 = .ok (.istore 4, 2) := by decide +kernel
theorem dL_owes_3 : decode cL_owes 3 = .ok (.iconst 0, 1) := by decide +kernel
theorem dL_owes_4 : decode cL_owes 4 = .ok (.istore 5, 2) := by decide +kernel
theorem dL_owes_6 : decode cL_owes 6 = .ok (.iload 5, 2) := by decide +kernel
theorem dL_owes_8 : decode cL_owes 8 = .ok (.aload_n 2, 1) := by decide +kernel
theorem dL_owes_9 : decode cL_owes 9 = .ok (.iconst 1, 1) := by decide +kernel
theorem dL_owes_10 : decode cL_owes 10 = .ok (.iaload, 1) := by decide +kernel
theorem dL_owes_11 : decode cL_owes 11 = .ok (.if_icmp .ge 34, 3) := by decide +kernel
theorem dL_owes_14 : decode cL_owes 14 = .ok (.aload_n 3, 1) := by decide +kernel
theorem dL_owes_15 : decode cL_owes 15 = .ok (.iconst 3, 1) := by decide +kernel
theorem dL_owes_16 : decode cL_owes 16 = .ok (.iload 5, 2) := by decide +kernel
theorem dL_owes_18 : decode cL_owes 18 = .ok (.imul, 1) := by decide +kernel
theorem dL_owes_19 : decode cL_owes 19 = .ok (.iload_n 1, 1) := by decide +kernel
theorem dL_owes_20 : decode cL_owes 20 = .ok (.iadd, 1) := by decide +kernel
theorem dL_owes_21 : decode cL_owes 21 = .ok (.iaload, 1) := by decide +kernel
theorem dL_owes_22 : decode cL_owes 22 = .ok (.iload_n 0, 1) := by decide +kernel
theorem dL_owes_23 : decode cL_owes 23 = .ok (.if_icmp .ne 16, 3) := by decide +kernel
theorem dL_owes_26 : decode cL_owes 26 = .ok (.iload 4, 2) := by decide +kernel
theorem dL_owes_28 : decode cL_owes 28 = .ok (.aload_n 3, 1) := by decide +kernel
theorem dL_owes_29 : decode cL_owes 29 = .ok (.iconst 3, 1) := by decide +kernel
theorem dL_owes_30 : decode cL_owes 30 = .ok (.iload 5, 2) := by decide +kernel
theorem dL_owes_32 : decode cL_owes 32 = .ok (.imul, 1) := by decide +kernel
theorem dL_owes_33 : decode cL_owes 33 = .ok (.iconst 2, 1) := by decide +kernel
theorem dL_owes_34 : decode cL_owes 34 = .ok (.iadd, 1) := by decide +kernel
theorem dL_owes_35 : decode cL_owes 35 = .ok (.iaload, 1) := by decide +kernel
theorem dL_owes_36 : decode cL_owes 36 = .ok (.iadd, 1) := by decide +kernel
theorem dL_owes_37 : decode cL_owes 37 = .ok (.istore 4, 2) := by decide +kernel
theorem dL_owes_39 : decode cL_owes 39 = .ok (.iinc 5 1, 3) := by decide +kernel
theorem dL_owes_42 : decode cL_owes 42 = .ok (.goto (-36), 3) := by decide +kernel
theorem dL_owes_45 : decode cL_owes 45 = .ok (.iload 4, 2) := by decide +kernel
theorem dL_owes_47 : decode cL_owes 47 = .ok (.ireturn, 1) := by decide +kernel
theorem dL_drop_0 : decode cL_drop 0 = .ok (.aload_n 0, 1) := by decide +kernel
theorem dL_drop_1 : decode cL_drop 1 = .ok (.iconst 1, 1) := by decide +kernel
theorem dL_drop_2 : decode cL_drop 2 = .ok (.iaload, 1) := by decide +kernel
theorem dL_drop_3 : decode cL_drop 3 = .ok (.iconst 1, 1) := by decide +kernel
theorem dL_drop_4 : decode cL_drop 4 = .ok (.isub, 1) := by decide +kernel
theorem dL_drop_5 : decode cL_drop 5 = .ok (.istore_n 2, 1) := by decide +kernel
theorem dL_drop_6 : decode cL_drop 6 = .ok (.iload_n 2, 1) := by decide +kernel
theorem dL_drop_7 : decode cL_drop 7 = .ok (.ifCond .lt 53, 3) := by decide +kernel
theorem dL_drop_10 : decode cL_drop 10 = .ok (.aload_n 1, 1) := by decide +kernel
theorem dL_drop_11 : decode cL_drop 11 = .ok (.iconst 3, 1) := by decide +kernel
theorem dL_drop_12 : decode cL_drop 12 = .ok (.iload_n 2, 1) := by decide +kernel
theorem dL_drop_13 : decode cL_drop 13 = .ok (.imul, 1) := by decide +kernel
theorem dL_drop_14 : decode cL_drop 14 = .ok (.iconst 2, 1) := by decide +kernel
theorem dL_drop_15 : decode cL_drop 15 = .ok (.iadd, 1) := by decide +kernel
theorem dL_drop_16 : decode cL_drop 16 = .ok (.iaload, 1) := by decide +kernel
theorem dL_drop_17 : decode cL_drop 17 = .ok (.ifCond .ne 37, 3) := by decide +kernel
theorem dL_drop_20 : decode cL_drop 20 = .ok (.aload_n 0, 1) := by decide +kernel
theorem dL_drop_21 : decode cL_drop 21 = .ok (.iconst 1, 1) := by decide +kernel
theorem dL_drop_22 : decode cL_drop 22 = .ok (.dup2, 1) := by decide +kernel
theorem dL_drop_23 : decode cL_drop 23 = .ok (.iaload, 1) := by decide +kernel
theorem dL_drop_24 : decode cL_drop 24 = .ok (.iconst 1, 1) := by decide +kernel
theorem dL_drop_25 : decode cL_drop 25 = .ok (.isub, 1) := by decide +kernel
theorem dL_drop_26 : decode cL_drop 26 = .ok (.iastore, 1) := by decide +kernel
theorem dL_drop_27 : decode cL_drop 27 = .ok (.iconst 3, 1) := by decide +kernel
theorem dL_drop_28 : decode cL_drop 28 = .ok (.iload_n 2, 1) := by decide +kernel
theorem dL_drop_29 : decode cL_drop 29 = .ok (.imul, 1) := by decide +kernel
theorem dL_drop_30 : decode cL_drop 30 = .ok (.istore_n 3, 1) := by decide +kernel
theorem dL_drop_31 : decode cL_drop 31 = .ok (.iload_n 3, 1) := by decide +kernel
theorem dL_drop_32 : decode cL_drop 32 = .ok (.iconst 3, 1) := by decide +kernel
theorem dL_drop_33 : decode cL_drop 33 = .ok (.aload_n 0, 1) := by decide +kernel
theorem dL_drop_34 : decode cL_drop 34 = .ok (.iconst 1, 1) := by decide +kernel
theorem dL_drop_35 : decode cL_drop 35 = .ok (.iaload, 1) := by decide +kernel
theorem dL_drop_36 : decode cL_drop 36 = .ok (.imul, 1) := by decide +kernel
theorem dL_drop_37 : decode cL_drop 37 = .ok (.if_icmp .ge 17, 3) := by decide +kernel
theorem dL_drop_40 : decode cL_drop 40 = .ok (.aload_n 1, 1) := by decide +kernel
theorem dL_drop_41 : decode cL_drop 41 = .ok (.iload_n 3, 1) := by decide +kernel
theorem dL_drop_42 : decode cL_drop 42 = .ok (.aload_n 1, 1) := by decide +kernel
theorem dL_drop_43 : decode cL_drop 43 = .ok (.iload_n 3, 1) := by decide +kernel
theorem dL_drop_44 : decode cL_drop 44 = .ok (.iconst 3, 1) := by decide +kernel
theorem dL_drop_45 : decode cL_drop 45 = .ok (.iadd, 1) := by decide +kernel
theorem dL_drop_46 : decode cL_drop 46 = .ok (.iaload, 1) := by decide +kernel
theorem dL_drop_47 : decode cL_drop 47 = .ok (.iastore, 1) := by decide +kernel
theorem dL_drop_48 : decode cL_drop 48 = .ok (.iinc 3 1, 3) := by decide +kernel
theorem dL_drop_51 : decode cL_drop 51 = .ok (.goto (-20), 3) := by decide +kernel
theorem dL_drop_54 : decode cL_drop 54 = .ok (.iinc 2 (-1), 3) := by decide +kernel
theorem dL_drop_57 : decode cL_drop 57 = .ok (.goto (-51), 3) := by decide +kernel
theorem dL_drop_60 : decode cL_drop 60 = .ok (.return_, 1) := by decide +kernel
theorem dL_token_0 : decode cL_token 0 = .ok (.bipush 6, 2) := by decide +kernel
theorem dL_token_2 : decode cL_token 2 = .ok (.iload_n 0, 1) := by decide +kernel
theorem dL_token_3 : decode cL_token 3 = .ok (.imul, 1) := by decide +kernel
theorem dL_token_4 : decode cL_token 4 = .ok (.istore 5, 2) := by decide +kernel
theorem dL_token_6 : decode cL_token 6 = .ok (.iload_n 1, 1) := by decide +kernel
theorem dL_token_7 : decode cL_token 7 = .ok (.aload_n 2, 1) := by decide +kernel
theorem dL_token_8 : decode cL_token 8 = .ok (.iconst 5, 1) := by decide +kernel
theorem dL_token_9 : decode cL_token 9 = .ok (.iaload, 1) := by decide +kernel
theorem dL_token_10 : decode cL_token 10 = .ok (.imul, 1) := by decide +kernel
theorem dL_token_11 : decode cL_token 11 = .ok (.bipush 100, 2) := by decide +kernel
theorem dL_token_13 : decode cL_token 13 = .ok (.idiv, 1) := by decide +kernel
theorem dL_token_14 : decode cL_token 14 = .ok (.istore 6, 2) := by decide +kernel
theorem dL_token_16 : decode cL_token 16 = .ok (.iload 6, 2) := by decide +kernel
theorem dL_token_18 : decode cL_token 18 = .ok (.aload_n 3, 1) := by decide +kernel
theorem dL_token_19 : decode cL_token 19 = .ok (.iload 5, 2) := by decide +kernel
theorem dL_token_21 : decode cL_token 21 = .ok (.iconst 2, 1) := by decide +kernel
theorem dL_token_22 : decode cL_token 22 = .ok (.iadd, 1) := by decide +kernel
theorem dL_token_23 : decode cL_token 23 = .ok (.iaload, 1) := by decide +kernel
theorem dL_token_24 : decode cL_token 24 = .ok (.if_icmp .le 11, 3) := by decide +kernel
theorem dL_token_27 : decode cL_token 27 = .ok (.aload_n 3, 1) := by decide +kernel
theorem dL_token_28 : decode cL_token 28 = .ok (.iload 5, 2) := by decide +kernel
theorem dL_token_30 : decode cL_token 30 = .ok (.iconst 2, 1) := by decide +kernel
theorem dL_token_31 : decode cL_token 31 = .ok (.iadd, 1) := by decide +kernel
theorem dL_token_32 : decode cL_token 32 = .ok (.iaload, 1) := by decide +kernel
theorem dL_token_33 : decode cL_token 33 = .ok (.istore 6, 2) := by decide +kernel
theorem dL_token_35 : decode cL_token 35 = .ok (.aload_n 3, 1) := by decide +kernel
theorem dL_token_36 : decode cL_token 36 = .ok (.iload 5, 2) := by decide +kernel
theorem dL_token_38 : decode cL_token 38 = .ok (.iconst 2, 1) := by decide +kernel
theorem dL_token_39 : decode cL_token 39 = .ok (.iadd, 1) := by decide +kernel
theorem dL_token_40 : decode cL_token 40 = .ok (.dup2, 1) := by decide +kernel
theorem dL_token_41 : decode cL_token 41 = .ok (.iaload, 1) := by decide +kernel
theorem dL_token_42 : decode cL_token 42 = .ok (.iload 6, 2) := by decide +kernel
theorem dL_token_44 : decode cL_token 44 = .ok (.isub, 1) := by decide +kernel
theorem dL_token_45 : decode cL_token 45 = .ok (.iastore, 1) := by decide +kernel
theorem dL_token_46 : decode cL_token 46 = .ok (.iload_n 1, 1) := by decide +kernel
theorem dL_token_47 : decode cL_token 47 = .ok (.iload 6, 2) := by decide +kernel
theorem dL_token_49 : decode cL_token 49 = .ok (.isub, 1) := by decide +kernel
theorem dL_token_50 : decode cL_token 50 = .ok (.aload_n 2, 1) := by decide +kernel
theorem dL_token_51 : decode cL_token 51 = .ok (.bipush 6, 2) := by decide +kernel
theorem dL_token_53 : decode cL_token 53 = .ok (.iaload, 1) := by decide +kernel
theorem dL_token_54 : decode cL_token 54 = .ok (.imul, 1) := by decide +kernel
theorem dL_token_55 : decode cL_token 55 = .ok (.bipush 100, 2) := by decide +kernel
theorem dL_token_57 : decode cL_token 57 = .ok (.idiv, 1) := by decide +kernel
theorem dL_token_58 : decode cL_token 58 = .ok (.istore 7, 2) := by decide +kernel
theorem dL_token_60 : decode cL_token 60 = .ok (.iload 7, 2) := by decide +kernel
theorem dL_token_62 : decode cL_token 62 = .ok (.iload_n 0, 1) := by decide +kernel
theorem dL_token_63 : decode cL_token 63 = .ok (.iconst 1, 1) := by decide +kernel
theorem dL_token_64 : decode cL_token 64 = .ok (.aload_n 2, 1) := by decide +kernel
theorem dL_token_65 : decode cL_token 65 = .ok (.aload 4, 2) := by decide +kernel
theorem dL_token_67 : decode cL_token 67 = .ok (.invokestatic 22, 3) := by decide +kernel
theorem dL_token_70 : decode cL_token 70 = .ok (.if_icmp .le 13, 3) := by decide +kernel
theorem dL_token_73 : decode cL_token 73 = .ok (.iload_n 0, 1) := by decide +kernel
theorem dL_token_74 : decode cL_token 74 = .ok (.iconst 1, 1) := by decide +kernel
theorem dL_token_75 : decode cL_token 75 = .ok (.aload_n 2, 1) := by decide +kernel
theorem dL_token_76 : decode cL_token 76 = .ok (.aload 4, 2) := by decide +kernel
theorem dL_token_78 : decode cL_token 78 = .ok (.invokestatic 22, 3) := by decide +kernel
theorem dL_token_81 : decode cL_token 81 = .ok (.istore 7, 2) := by decide +kernel
theorem dL_token_83 : decode cL_token 83 = .ok (.aload_n 3, 1) := by decide +kernel
theorem dL_token_84 : decode cL_token 84 = .ok (.iload 5, 2) := by decide +kernel
theorem dL_token_86 : decode cL_token 86 = .ok (.iconst 4, 1) := by decide +kernel
theorem dL_token_87 : decode cL_token 87 = .ok (.iadd, 1) := by decide +kernel
theorem dL_token_88 : decode cL_token 88 = .ok (.dup2, 1) := by decide +kernel
theorem dL_token_89 : decode cL_token 89 = .ok (.iaload, 1) := by decide +kernel
theorem dL_token_90 : decode cL_token 90 = .ok (.iload_n 1, 1) := by decide +kernel
theorem dL_token_91 : decode cL_token 91 = .ok (.iload 6, 2) := by decide +kernel
theorem dL_token_93 : decode cL_token 93 = .ok (.isub, 1) := by decide +kernel
theorem dL_token_94 : decode cL_token 94 = .ok (.iload 7, 2) := by decide +kernel
theorem dL_token_96 : decode cL_token 96 = .ok (.isub, 1) := by decide +kernel
theorem dL_token_97 : decode cL_token 97 = .ok (.iadd, 1) := by decide +kernel
theorem dL_token_98 : decode cL_token 98 = .ok (.iastore, 1) := by decide +kernel
theorem dL_token_99 : decode cL_token 99 = .ok (.iconst 0, 1) := by decide +kernel
theorem dL_token_100 : decode cL_token 100 = .ok (.istore 8, 2) := by decide +kernel
theorem dL_token_102 : decode cL_token 102 = .ok (.iload 7, 2) := by decide +kernel
theorem dL_token_104 : decode cL_token 104 = .ok (.ifCond .le 92, 3) := by decide +kernel
theorem dL_token_107 : decode cL_token 107 = .ok (.aload 4, 2) := by decide +kernel
theorem dL_token_109 : decode cL_token 109 = .ok (.iconst 3, 1) := by decide +kernel
theorem dL_token_110 : decode cL_token 110 = .ok (.iload 8, 2) := by decide +kernel
theorem dL_token_112 : decode cL_token 112 = .ok (.imul, 1) := by decide +kernel
theorem dL_token_113 : decode cL_token 113 = .ok (.iconst 1, 1) := by decide +kernel
theorem dL_token_114 : decode cL_token 114 = .ok (.iadd, 1) := by decide +kernel
theorem dL_token_115 : decode cL_token 115 = .ok (.iaload, 1) := by decide +kernel
theorem dL_token_116 : decode cL_token 116 = .ok (.iload_n 0, 1) := by decide +kernel
theorem dL_token_117 : decode cL_token 117 = .ok (.if_icmp .ne 73, 3) := by decide +kernel
theorem dL_token_120 : decode cL_token 120 = .ok (.iload 7, 2) := by decide +kernel
theorem dL_token_122 : decode cL_token 122 = .ok (.aload 4, 2) := by decide +kernel
theorem dL_token_124 : decode cL_token 124 = .ok (.iconst 3, 1) := by decide +kernel
theorem dL_token_125 : decode cL_token 125 = .ok (.iload 8, 2) := by decide +kernel
theorem dL_token_127 : decode cL_token 127 = .ok (.imul, 1) := by decide +kernel
theorem dL_token_128 : decode cL_token 128 = .ok (.iconst 2, 1) := by decide +kernel
theorem dL_token_129 : decode cL_token 129 = .ok (.iadd, 1) := by decide +kernel
theorem dL_token_130 : decode cL_token 130 = .ok (.iaload, 1) := by decide +kernel
theorem dL_token_131 : decode cL_token 131 = .ok (.if_icmp .le 15, 3) := by decide +kernel
theorem dL_token_134 : decode cL_token 134 = .ok (.aload 4, 2) := by decide +kernel
theorem dL_token_136 : decode cL_token 136 = .ok (.iconst 3, 1) := by decide +kernel
theorem dL_token_137 : decode cL_token 137 = .ok (.iload 8, 2) := by decide +kernel
theorem dL_token_139 : decode cL_token 139 = .ok (.imul, 1) := by decide +kernel
theorem dL_token_140 : decode cL_token 140 = .ok (.iconst 2, 1) := by decide +kernel
theorem dL_token_141 : decode cL_token 141 = .ok (.iadd, 1) := by decide +kernel
theorem dL_token_142 : decode cL_token 142 = .ok (.iaload, 1) := by decide +kernel
theorem dL_token_143 : decode cL_token 143 = .ok (.goto 5, 3) := by decide +kernel
theorem dL_token_146 : decode cL_token 146 = .ok (.iload 7, 2) := by decide +kernel
theorem dL_token_148 : decode cL_token 148 = .ok (.istore 9, 2) := by decide +kernel
theorem dL_token_150 : decode cL_token 150 = .ok (.aload 4, 2) := by decide +kernel
theorem dL_token_152 : decode cL_token 152 = .ok (.iconst 3, 1) := by decide +kernel
theorem dL_token_153 : decode cL_token 153 = .ok (.iload 8, 2) := by decide +kernel
theorem dL_token_155 : decode cL_token 155 = .ok (.imul, 1) := by decide +kernel
theorem dL_token_156 : decode cL_token 156 = .ok (.iconst 2, 1) := by decide +kernel
theorem dL_token_157 : decode cL_token 157 = .ok (.iadd, 1) := by decide +kernel
theorem dL_token_158 : decode cL_token 158 = .ok (.dup2, 1) := by decide +kernel
theorem dL_token_159 : decode cL_token 159 = .ok (.iaload, 1) := by decide +kernel
theorem dL_token_160 : decode cL_token 160 = .ok (.iload 9, 2) := by decide +kernel
theorem dL_token_162 : decode cL_token 162 = .ok (.isub, 1) := by decide +kernel
theorem dL_token_163 : decode cL_token 163 = .ok (.iastore, 1) := by decide +kernel
theorem dL_token_164 : decode cL_token 164 = .ok (.aload_n 3, 1) := by decide +kernel
theorem dL_token_165 : decode cL_token 165 = .ok (.bipush 6, 2) := by decide +kernel
theorem dL_token_167 : decode cL_token 167 = .ok (.aload 4, 2) := by decide +kernel
theorem dL_token_169 : decode cL_token 169 = .ok (.iconst 3, 1) := by decide +kernel
theorem dL_token_170 : decode cL_token 170 = .ok (.iload 8, 2) := by decide +kernel
theorem dL_token_172 : decode cL_token 172 = .ok (.imul, 1) := by decide +kernel
theorem dL_token_173 : decode cL_token 173 = .ok (.iaload, 1) := by decide +kernel
theorem dL_token_174 : decode cL_token 174 = .ok (.imul, 1) := by decide +kernel
theorem dL_token_175 : decode cL_token 175 = .ok (.iconst 4, 1) := by decide +kernel
theorem dL_token_176 : decode cL_token 176 = .ok (.iadd, 1) := by decide +kernel
theorem dL_token_177 : decode cL_token 177 = .ok (.dup2, 1) := by decide +kernel
theorem dL_token_178 : decode cL_token 178 = .ok (.iaload, 1) := by decide +kernel
theorem dL_token_179 : decode cL_token 179 = .ok (.iload 9, 2) := by decide +kernel
theorem dL_token_181 : decode cL_token 181 = .ok (.iadd, 1) := by decide +kernel
theorem dL_token_182 : decode cL_token 182 = .ok (.iastore, 1) := by decide +kernel
theorem dL_token_183 : decode cL_token 183 = .ok (.iload 7, 2) := by decide +kernel
theorem dL_token_185 : decode cL_token 185 = .ok (.iload 9, 2) := by decide +kernel
theorem dL_token_187 : decode cL_token 187 = .ok (.isub, 1) := by decide +kernel
theorem dL_token_188 : decode cL_token 188 = .ok (.istore 7, 2) := by decide +kernel
theorem dL_token_190 : decode cL_token 190 = .ok (.iinc 8 1, 3) := by decide +kernel
theorem dL_token_193 : decode cL_token 193 = .ok (.goto (-91), 3) := by decide +kernel
theorem dL_token_196 : decode cL_token 196 = .ok (.aload_n 2, 1) := by decide +kernel
theorem dL_token_197 : decode cL_token 197 = .ok (.aload 4, 2) := by decide +kernel
theorem dL_token_199 : decode cL_token 199 = .ok (.invokestatic 25, 3) := by decide +kernel
theorem dL_token_202 : decode cL_token 202 = .ok (.aload_n 2, 1) := by decide +kernel
theorem dL_token_203 : decode cL_token 203 = .ok (.bipush 13, 2) := by decide +kernel
theorem dL_token_205 : decode cL_token 205 = .ok (.dup2, 1) := by decide +kernel
theorem dL_token_206 : decode cL_token 206 = .ok (.iaload, 1) := by decide +kernel
theorem dL_token_207 : decode cL_token 207 = .ok (.iload_n 1, 1) := by decide +kernel
theorem dL_token_208 : decode cL_token 208 = .ok (.iadd, 1) := by decide +kernel
theorem dL_token_209 : decode cL_token 209 = .ok (.iastore, 1) := by decide +kernel
theorem dL_token_210 : decode cL_token 210 = .ok (.aload_n 2, 1) := by decide +kernel
theorem dL_token_211 : decode cL_token 211 = .ok (.bipush 14, 2) := by decide +kernel
theorem dL_token_213 : decode cL_token 213 = .ok (.dup2, 1) := by decide +kernel
theorem dL_token_214 : decode cL_token 214 = .ok (.iaload, 1) := by decide +kernel
theorem dL_token_215 : decode cL_token 215 = .ok (.iload 6, 2) := by decide +kernel
theorem dL_token_217 : decode cL_token 217 = .ok (.iadd, 1) := by decide +kernel
theorem dL_token_218 : decode cL_token 218 = .ok (.iastore, 1) := by decide +kernel
theorem dL_token_219 : decode cL_token 219 = .ok (.return_, 1) := by decide +kernel
theorem dL_fresh_0 : decode cL_fresh 0 = .ok (.aload_n 0, 1) := by decide +kernel
theorem dL_fresh_1 : decode cL_fresh 1 = .ok (.iconst 3, 1) := by decide +kernel
theorem dL_fresh_2 : decode cL_fresh 2 = .ok (.iconst 1, 1) := by decide +kernel
theorem dL_fresh_3 : decode cL_fresh 3 = .ok (.iastore, 1) := by decide +kernel
theorem dL_fresh_4 : decode cL_fresh 4 = .ok (.aload_n 0, 1) := by decide +kernel
theorem dL_fresh_5 : decode cL_fresh 5 = .ok (.iconst 4, 1) := by decide +kernel
theorem dL_fresh_6 : decode cL_fresh 6 = .ok (.iconst 5, 1) := by decide +kernel
theorem dL_fresh_7 : decode cL_fresh 7 = .ok (.iastore, 1) := by decide +kernel
theorem dL_fresh_8 : decode cL_fresh 8 = .ok (.aload_n 0, 1) := by decide +kernel
theorem dL_fresh_9 : decode cL_fresh 9 = .ok (.iconst 5, 1) := by decide +kernel
theorem dL_fresh_10 : decode cL_fresh 10 = .ok (.bipush 40, 2) := by decide +kernel
theorem dL_fresh_12 : decode cL_fresh 12 = .ok (.iastore, 1) := by decide +kernel
theorem dL_fresh_13 : decode cL_fresh 13 = .ok (.aload_n 0, 1) := by decide +kernel
theorem dL_fresh_14 : decode cL_fresh 14 = .ok (.bipush 6, 2) := by decide +kernel
theorem dL_fresh_16 : decode cL_fresh 16 = .ok (.bipush 50, 2) := by decide +kernel
theorem dL_fresh_18 : decode cL_fresh 18 = .ok (.iastore, 1) := by decide +kernel
theorem dL_fresh_19 : decode cL_fresh 19 = .ok (.aload_n 0, 1) := by decide +kernel
theorem dL_fresh_20 : decode cL_fresh 20 = .ok (.bipush 7, 2) := by decide +kernel
theorem dL_fresh_22 : decode cL_fresh 22 = .ok (.bipush 50, 2) := by decide +kernel
theorem dL_fresh_24 : decode cL_fresh 24 = .ok (.iastore, 1) := by decide +kernel
theorem dL_fresh_25 : decode cL_fresh 25 = .ok (.aload_n 0, 1) := by decide +kernel
theorem dL_fresh_26 : decode cL_fresh 26 = .ok (.bipush 15, 2) := by decide +kernel
theorem dL_fresh_28 : decode cL_fresh 28 = .ok (.iconst 1, 1) := by decide +kernel
theorem dL_fresh_29 : decode cL_fresh 29 = .ok (.iastore, 1) := by decide +kernel
theorem dL_fresh_30 : decode cL_fresh 30 = .ok (.aload_n 2, 1) := by decide +kernel
theorem dL_fresh_31 : decode cL_fresh 31 = .ok (.iconst 0, 1) := by decide +kernel
theorem dL_fresh_32 : decode cL_fresh 32 = .ok (.bipush 20, 2) := by decide +kernel
theorem dL_fresh_34 : decode cL_fresh 34 = .ok (.iastore, 1) := by decide +kernel
theorem dL_fresh_35 : decode cL_fresh 35 = .ok (.iconst 0, 1) := by decide +kernel
theorem dL_fresh_36 : decode cL_fresh 36 = .ok (.istore_n 3, 1) := by decide +kernel
theorem dL_fresh_37 : decode cL_fresh 37 = .ok (.iload_n 3, 1) := by decide +kernel
theorem dL_fresh_38 : decode cL_fresh 38 = .ok (.iconst 2, 1) := by decide +kernel
theorem dL_fresh_39 : decode cL_fresh 39 = .ok (.if_icmp .ge 27, 3) := by decide +kernel
theorem dL_fresh_42 : decode cL_fresh 42 = .ok (.aload_n 1, 1) := by decide +kernel
theorem dL_fresh_43 : decode cL_fresh 43 = .ok (.iconst 4, 1) := by decide +kernel
theorem dL_fresh_44 : decode cL_fresh 44 = .ok (.iload_n 3, 1) := by decide +kernel
theorem dL_fresh_45 : decode cL_fresh 45 = .ok (.imul, 1) := by decide +kernel
theorem dL_fresh_46 : decode cL_fresh 46 = .ok (.iconst 1, 1) := by decide +kernel
theorem dL_fresh_47 : decode cL_fresh 47 = .ok (.iadd, 1) := by decide +kernel
theorem dL_fresh_48 : decode cL_fresh 48 = .ok (.bipush 20, 2) := by decide +kernel
theorem dL_fresh_50 : decode cL_fresh 50 = .ok (.iastore, 1) := by decide +kernel
theorem dL_fresh_51 : decode cL_fresh 51 = .ok (.aload_n 1, 1) := by decide +kernel
theorem dL_fresh_52 : decode cL_fresh 52 = .ok (.iconst 4, 1) := by decide +kernel
theorem dL_fresh_53 : decode cL_fresh 53 = .ok (.iload_n 3, 1) := by decide +kernel
theorem dL_fresh_54 : decode cL_fresh 54 = .ok (.imul, 1) := by decide +kernel
theorem dL_fresh_55 : decode cL_fresh 55 = .ok (.iconst 2, 1) := by decide +kernel
theorem dL_fresh_56 : decode cL_fresh 56 = .ok (.iadd, 1) := by decide +kernel
theorem dL_fresh_57 : decode cL_fresh 57 = .ok (.bipush 90, 2) := by decide +kernel
theorem dL_fresh_59 : decode cL_fresh 59 = .ok (.iastore, 1) := by decide +kernel
theorem dL_fresh_60 : decode cL_fresh 60 = .ok (.iinc 3 1, 3) := by decide +kernel
theorem dL_fresh_63 : decode cL_fresh 63 = .ok (.goto (-26), 3) := by decide +kernel
theorem dL_fresh_66 : decode cL_fresh 66 = .ok (.return_, 1) := by decide +kernel
theorem dL_house_0 : decode cL_house 0 = .ok (.aload_n 3, 1) := by decide +kernel
theorem dL_house_1 : decode cL_house 1 = .ok (.iconst 0, 1) := by decide +kernel
theorem dL_house_2 : decode cL_house 2 = .ok (.iaload, 1) := by decide +kernel
theorem dL_house_3 : decode cL_house 3 = .ok (.bipush 8, 2) := by decide +kernel
theorem dL_house_5 : decode cL_house 5 = .ok (.if_icmp .ne 5, 3) := by decide +kernel
theorem dL_house_8 : decode cL_house 8 = .ok (.iconst 1, 1) := by decide +kernel
theorem dL_house_9 : decode cL_house 9 = .ok (.ireturn, 1) := by decide +kernel
theorem dL_house_10 : decode cL_house 10 = .ok (.aload_n 3, 1) := by decide +kernel
theorem dL_house_11 : decode cL_house 11 = .ok (.iconst 0, 1) := by decide +kernel
theorem dL_house_12 : decode cL_house 12 = .ok (.dup2, 1) := by decide +kernel
theorem dL_house_13 : decode cL_house 13 = .ok (.iaload, 1) := by decide +kernel
theorem dL_house_14 : decode cL_house 14 = .ok (.dup_x2, 1) := by decide +kernel
theorem dL_house_15 : decode cL_house 15 = .ok (.iconst 1, 1) := by decide +kernel
theorem dL_house_16 : decode cL_house 16 = .ok (.iadd, 1) := by decide +kernel
theorem dL_house_17 : decode cL_house 17 = .ok (.iastore, 1) := by decide +kernel
theorem dL_house_18 : decode cL_house 18 = .ok (.istore 6, 2) := by decide +kernel
theorem dL_house_20 : decode cL_house 20 = .ok (.iconst 0, 1) := by decide +kernel
theorem dL_house_21 : decode cL_house 21 = .ok (.istore 7, 2) := by decide +kernel
theorem dL_house_23 : decode cL_house 23 = .ok (.iload 7, 2) := by decide +kernel
theorem dL_house_25 : decode cL_house 25 = .ok (.bipush 6, 2) := by decide +kernel
theorem dL_house_27 : decode cL_house 27 = .ok (.if_icmp .ge 21, 3) := by decide +kernel
theorem dL_house_30 : decode cL_house 30 = .ok (.aload 4, 2) := by decide +kernel
theorem dL_house_32 : decode cL_house 32 = .ok (.bipush 6, 2) := by decide +kernel
theorem dL_house_34 : decode cL_house 34 = .ok (.iload 6, 2) := by decide +kernel
theorem dL_house_36 : decode cL_house 36 = .ok (.imul, 1) := by decide +kernel
theorem dL_house_37 : decode cL_house 37 = .ok (.iload 7, 2) := by decide +kernel
theorem dL_house_39 : decode cL_house 39 = .ok (.iadd, 1) := by decide +kernel
theorem dL_house_40 : decode cL_house 40 = .ok (.iconst 0, 1) := by decide +kernel
theorem dL_house_41 : decode cL_house 41 = .ok (.iastore, 1) := by decide +kernel
theorem dL_house_42 : decode cL_house 42 = .ok (.iinc 7 1, 3) := by decide +kernel
theorem dL_house_45 : decode cL_house 45 = .ok (.goto (-22), 3) := by decide +kernel
theorem dL_house_48 : decode cL_house 48 = .ok (.aload 4, 2) := by decide +kernel
theorem dL_house_50 : decode cL_house 50 = .ok (.bipush 6, 2) := by decide +kernel
theorem dL_house_52 : decode cL_house 52 = .ok (.iload 6, 2) := by decide +kernel
theorem dL_house_54 : decode cL_house 54 = .ok (.imul, 1) := by decide +kernel
theorem dL_house_55 : decode cL_house 55 = .ok (.iload_n 1, 1) := by decide +kernel
theorem dL_house_56 : decode cL_house 56 = .ok (.iconst 3, 1) := by decide +kernel
theorem dL_house_57 : decode cL_house 57 = .ok (.invokestatic 29, 3) := by decide +kernel
theorem dL_house_60 : decode cL_house 60 = .ok (.iastore, 1) := by decide +kernel
theorem dL_house_61 : decode cL_house 61 = .ok (.aload 4, 2) := by decide +kernel
theorem dL_house_63 : decode cL_house 63 = .ok (.bipush 6, 2) := by decide +kernel
theorem dL_house_65 : decode cL_house 65 = .ok (.iload 6, 2) := by decide +kernel
theorem dL_house_67 : decode cL_house 67 = .ok (.imul, 1) := by decide +kernel
theorem dL_house_68 : decode cL_house 68 = .ok (.iconst 1, 1) := by decide +kernel
theorem dL_house_69 : decode cL_house 69 = .ok (.iadd, 1) := by decide +kernel
theorem dL_house_70 : decode cL_house 70 = .ok (.iload_n 2, 1) := by decide +kernel
theorem dL_house_71 : decode cL_house 71 = .ok (.iload_n 1, 1) := by decide +kernel
theorem dL_house_72 : decode cL_house 72 = .ok (.iconst 5, 1) := by decide +kernel
theorem dL_house_73 : decode cL_house 73 = .ok (.ishr, 1) := by decide +kernel
theorem dL_house_74 : decode cL_house 74 = .ok (.iconst 4, 1) := by decide +kernel
theorem dL_house_75 : decode cL_house 75 = .ok (.invokestatic 29, 3) := by decide +kernel
theorem dL_house_78 : decode cL_house 78 = .ok (.ifCond .ne 8, 3) := by decide +kernel
theorem dL_house_81 : decode cL_house 81 = .ok (.bipush 51, 2) := by decide +kernel
theorem dL_house_83 : decode cL_house 83 = .ok (.goto 5, 3) := by decide +kernel
theorem dL_house_86 : decode cL_house 86 = .ok (.bipush 15, 2) := by decide +kernel
theorem dL_house_88 : decode cL_house 88 = .ok (.invokestatic 29, 3) := by decide +kernel
theorem dL_house_91 : decode cL_house 91 = .ok (.iastore, 1) := by decide +kernel
theorem dL_house_92 : decode cL_house 92 = .ok (.aload 4, 2) := by decide +kernel
theorem dL_house_94 : decode cL_house 94 = .ok (.bipush 6, 2) := by decide +kernel
theorem dL_house_96 : decode cL_house 96 = .ok (.iload 6, 2) := by decide +kernel
theorem dL_house_98 : decode cL_house 98 = .ok (.imul, 1) := by decide +kernel
theorem dL_house_99 : decode cL_house 99 = .ok (.iconst 3, 1) := by decide +kernel
theorem dL_house_100 : decode cL_house 100 = .ok (.iadd, 1) := by decide +kernel
theorem dL_house_101 : decode cL_house 101 = .ok (.iconst 1, 1) := by decide +kernel
theorem dL_house_102 : decode cL_house 102 = .ok (.iastore, 1) := by decide +kernel
theorem dL_house_103 : decode cL_house 103 = .ok (.aload 5, 2) := by decide +kernel
theorem dL_house_105 : decode cL_house 105 = .ok (.iload 6, 2) := by decide +kernel
theorem dL_house_107 : decode cL_house 107 = .ok (.iconst 0, 1) := by decide +kernel
theorem dL_house_108 : decode cL_house 108 = .ok (.iastore, 1) := by decide +kernel
theorem dL_house_109 : decode cL_house 109 = .ok (.aload 5, 2) := by decide +kernel
theorem dL_house_111 : decode cL_house 111 = .ok (.bipush 8, 2) := by decide +kernel
theorem dL_house_113 : decode cL_house 113 = .ok (.iload 6, 2) := by decide +kernel
theorem dL_house_115 : decode cL_house 115 = .ok (.iadd, 1) := by decide +kernel
theorem dL_house_116 : decode cL_house 116 = .ok (.iconst 0, 1) := by decide +kernel
theorem dL_house_117 : decode cL_house 117 = .ok (.iastore, 1) := by decide +kernel
theorem dL_house_118 : decode cL_house 118 = .ok (.aload_n 0, 1) := by decide +kernel
theorem dL_house_119 : decode cL_house 119 = .ok (.aload 4, 2) := by decide +kernel
theorem dL_house_121 : decode cL_house 121 = .ok (.bipush 6, 2) := by decide +kernel
theorem dL_house_123 : decode cL_house 123 = .ok (.iload 6, 2) := by decide +kernel
theorem dL_house_125 : decode cL_house 125 = .ok (.imul, 1) := by decide +kernel
theorem dL_house_126 : decode cL_house 126 = .ok (.iaload, 1) := by decide +kernel
theorem dL_house_127 : decode cL_house 127 = .ok (.aload 4, 2) := by decide +kernel
theorem dL_house_129 : decode cL_house 129 = .ok (.bipush 6, 2) := by decide +kernel
theorem dL_house_131 : decode cL_house 131 = .ok (.iload 6, 2) := by decide +kernel
theorem dL_house_133 : decode cL_house 133 = .ok (.imul, 1) := by decide +kernel
theorem dL_house_134 : decode cL_house 134 = .ok (.iconst 1, 1) := by decide +kernel
theorem dL_house_135 : decode cL_house 135 = .ok (.iadd, 1) := by decide +kernel
theorem dL_house_136 : decode cL_house 136 = .ok (.iaload, 1) := by decide +kernel
theorem dL_house_137 : decode cL_house 137 = .ok (.invokevirtual 33, 3) := by decide +kernel
theorem dL_house_140 : decode cL_house 140 = .ok (.iload 6, 2) := by decide +kernel
theorem dL_house_142 : decode cL_house 142 = .ok (.if_icmp .ne 7, 3) := by decide +kernel
theorem dL_house_145 : decode cL_house 145 = .ok (.iconst 1, 1) := by decide +kernel
theorem dL_house_146 : decode cL_house 146 = .ok (.goto 4, 3) := by decide +kernel
theorem dL_house_149 : decode cL_house 149 = .ok (.iconst 0, 1) := by decide +kernel
theorem dL_house_150 : decode cL_house 150 = .ok (.ireturn, 1) := by decide +kernel
theorem dL_set_0 : decode cL_set 0 = .ok (.iload_n 1, 1) := by decide +kernel
theorem dL_set_1 : decode cL_set 1 = .ok (.iconst 3, 1) := by decide +kernel
theorem dL_set_2 : decode cL_set 2 = .ok (.invokestatic 29, 3) := by decide +kernel
theorem dL_set_5 : decode cL_set 5 = .ok (.istore 6, 2) := by decide +kernel
theorem dL_set_7 : decode cL_set 7 = .ok (.iload 6, 2) := by decide +kernel
theorem dL_set_9 : decode cL_set 9 = .ok (.ifCond .ne 136, 3) := by decide +kernel
theorem dL_set_12 : decode cL_set 12 = .ok (.aload_n 3, 1) := by decide +kernel
theorem dL_set_13 : decode cL_set 13 = .ok (.iconst 0, 1) := by decide +kernel
theorem dL_set_14 : decode cL_set 14 = .ok (.iaload, 1) := by decide +kernel
theorem dL_set_15 : decode cL_set 15 = .ok (.ifCond .le 130, 3) := by decide +kernel
theorem dL_set_18 : decode cL_set 18 = .ok (.iload_n 1, 1) := by decide +kernel
theorem dL_set_19 : decode cL_set 19 = .ok (.iconst 3, 1) := by decide +kernel
theorem dL_set_20 : decode cL_set 20 = .ok (.ishr, 1) := by decide +kernel
theorem dL_set_21 : decode cL_set 21 = .ok (.iconst 4, 1) := by decide +kernel
theorem dL_set_22 : decode cL_set 22 = .ok (.invokestatic 29, 3) := by decide +kernel
theorem dL_set_25 : decode cL_set 25 = .ok (.istore 7, 2) := by decide +kernel
theorem dL_set_27 : decode cL_set 27 = .ok (.iload_n 1, 1) := by decide +kernel
theorem dL_set_28 : decode cL_set 28 = .ok (.bipush 6, 2) := by decide +kernel
theorem dL_set_30 : decode cL_set 30 = .ok (.ishr, 1) := by decide +kernel
theorem dL_set_31 : decode cL_set 31 = .ok (.aload_n 3, 1) := by decide +kernel
theorem dL_set_32 : decode cL_set 32 = .ok (.iconst 0, 1) := by decide +kernel
theorem dL_set_33 : decode cL_set 33 = .ok (.iaload, 1) := by decide +kernel
theorem dL_set_34 : decode cL_set 34 = .ok (.invokestatic 29, 3) := by decide +kernel
theorem dL_set_37 : decode cL_set 37 = .ok (.istore 8, 2) := by decide +kernel
theorem dL_set_39 : decode cL_set 39 = .ok (.iload 7, 2) := by decide +kernel
theorem dL_set_41 : decode cL_set 41 = .ok (.ifCond .ne 11, 3) := by decide +kernel
theorem dL_set_44 : decode cL_set 44 = .ok (.iload_n 2, 1) := by decide +kernel
theorem dL_set_45 : decode cL_set 45 = .ok (.iconst 3, 1) := by decide +kernel
theorem dL_set_46 : decode cL_set 46 = .ok (.invokestatic 29, 3) := by decide +kernel
theorem dL_set_49 : decode cL_set 49 = .ok (.goto 47, 3) := by decide +kernel
theorem dL_set_52 : decode cL_set 52 = .ok (.iload 7, 2) := by decide +kernel
theorem dL_set_54 : decode cL_set 54 = .ok (.iconst 1, 1) := by decide +kernel
theorem dL_set_55 : decode cL_set 55 = .ok (.if_icmp .ne 12, 3) := by decide +kernel
theorem dL_set_58 : decode cL_set 58 = .ok (.iload_n 2, 1) := by decide +kernel
theorem dL_set_59 : decode cL_set 59 = .ok (.bipush 30, 2) := by decide +kernel
theorem dL_set_61 : decode cL_set 61 = .ok (.invokestatic 29, 3) := by decide +kernel
theorem dL_set_64 : decode cL_set 64 = .ok (.goto 32, 3) := by decide +kernel
theorem dL_set_67 : decode cL_set 67 = .ok (.iload 7, 2) := by decide +kernel
theorem dL_set_69 : decode cL_set 69 = .ok (.iconst 2, 1) := by decide +kernel
theorem dL_set_70 : decode cL_set 70 = .ok (.if_icmp .ne 13, 3) := by decide +kernel
theorem dL_set_73 : decode cL_set 73 = .ok (.iload_n 2, 1) := by decide +kernel
theorem dL_set_74 : decode cL_set 74 = .ok (.sipush 400, 3) := by decide +kernel
theorem dL_set_77 : decode cL_set 77 = .ok (.invokestatic 29, 3) := by decide +kernel
theorem dL_set_80 : decode cL_set 80 = .ok (.goto 16, 3) := by decide +kernel
theorem dL_set_83 : decode cL_set 83 = .ok (.iload_n 2, 1) := by decide +kernel
theorem dL_set_84 : decode cL_set 84 = .ok (.iconst 3, 1) := by decide +kernel
theorem dL_set_85 : decode cL_set 85 = .ok (.invokestatic 29, 3) := by decide +kernel
theorem dL_set_88 : decode cL_set 88 = .ok (.ifCond .ne 7, 3) := by decide +kernel
theorem dL_set_91 : decode cL_set 91 = .ok (.iconst 0, 1) := by decide +kernel
theorem dL_set_92 : decode cL_set 92 = .ok (.goto 4, 3) := by decide +kernel
theorem dL_set_95 : decode cL_set 95 = .ok (.iconst 1, 1) := by decide +kernel
theorem dL_set_96 : decode cL_set 96 = .ok (.istore 9, 2) := by decide +kernel
theorem dL_set_98 : decode cL_set 98 = .ok (.aload 4, 2) := by decide +kernel
theorem dL_set_100 : decode cL_set 100 = .ok (.bipush 6, 2) := by decide +kernel
theorem dL_set_102 : decode cL_set 102 = .ok (.iload 8, 2) := by decide +kernel
theorem dL_set_104 : decode cL_set 104 = .ok (.imul, 1) := by decide +kernel
theorem dL_set_105 : decode cL_set 105 = .ok (.iload 7, 2) := by decide +kernel
theorem dL_set_107 : decode cL_set 107 = .ok (.iadd, 1) := by decide +kernel
theorem dL_set_108 : decode cL_set 108 = .ok (.iaload, 1) := by decide +kernel
theorem dL_set_109 : decode cL_set 109 = .ok (.istore 10, 2) := by decide +kernel
theorem dL_set_111 : decode cL_set 111 = .ok (.aload 4, 2) := by decide +kernel
theorem dL_set_113 : decode cL_set 113 = .ok (.bipush 6, 2) := by decide +kernel
theorem dL_set_115 : decode cL_set 115 = .ok (.iload 8, 2) := by decide +kernel
theorem dL_set_117 : decode cL_set 117 = .ok (.imul, 1) := by decide +kernel
theorem dL_set_118 : decode cL_set 118 = .ok (.iload 7, 2) := by decide +kernel
theorem dL_set_120 : decode cL_set 120 = .ok (.iadd, 1) := by decide +kernel
theorem dL_set_121 : decode cL_set 121 = .ok (.iload 9, 2) := by decide +kernel
theorem dL_set_123 : decode cL_set 123 = .ok (.iastore, 1) := by decide +kernel
theorem dL_set_124 : decode cL_set 124 = .ok (.aload_n 0, 1) := by decide +kernel
theorem dL_set_125 : decode cL_set 125 = .ok (.iload 8, 2) := by decide +kernel
theorem dL_set_127 : decode cL_set 127 = .ok (.iload 7, 2) := by decide +kernel
theorem dL_set_129 : decode cL_set 129 = .ok (.iload 9, 2) := by decide +kernel
theorem dL_set_131 : decode cL_set 131 = .ok (.invokevirtual 38, 3) := by decide +kernel
theorem dL_set_134 : decode cL_set 134 = .ok (.iload 10, 2) := by decide +kernel
theorem dL_set_136 : decode cL_set 136 = .ok (.if_icmp .ne 7, 3) := by decide +kernel
theorem dL_set_139 : decode cL_set 139 = .ok (.iconst 1, 1) := by decide +kernel
theorem dL_set_140 : decode cL_set 140 = .ok (.goto 4, 3) := by decide +kernel
theorem dL_set_143 : decode cL_set 143 = .ok (.iconst 0, 1) := by decide +kernel
theorem dL_set_144 : decode cL_set 144 = .ok (.ireturn, 1) := by decide +kernel
theorem dL_set_145 : decode cL_set 145 = .ok (.iload 6, 2) := by decide +kernel
theorem dL_set_147 : decode cL_set 147 = .ok (.iconst 1, 1) := by decide +kernel
theorem dL_set_148 : decode cL_set 148 = .ok (.if_icmp .ne 65, 3) := by decide +kernel
theorem dL_set_151 : decode cL_set 151 = .ok (.iload_n 1, 1) := by decide +kernel
theorem dL_set_152 : decode cL_set 152 = .ok (.iconst 3, 1) := by decide +kernel
theorem dL_set_153 : decode cL_set 153 = .ok (.ishr, 1) := by decide +kernel
theorem dL_set_154 : decode cL_set 154 = .ok (.iconst 4, 1) := by decide +kernel
theorem dL_set_155 : decode cL_set 155 = .ok (.invokestatic 29, 3) := by decide +kernel
theorem dL_set_158 : decode cL_set 158 = .ok (.istore 7, 2) := by decide +kernel
theorem dL_set_160 : decode cL_set 160 = .ok (.aload_n 3, 1) := by decide +kernel
theorem dL_set_161 : decode cL_set 161 = .ok (.iconst 4, 1) := by decide +kernel
theorem dL_set_162 : decode cL_set 162 = .ok (.iload 7, 2) := by decide +kernel
theorem dL_set_164 : decode cL_set 164 = .ok (.iadd, 1) := by decide +kernel
theorem dL_set_165 : decode cL_set 165 = .ok (.iaload, 1) := by decide +kernel
theorem dL_set_166 : decode cL_set 166 = .ok (.istore 8, 2) := by decide +kernel
theorem dL_set_168 : decode cL_set 168 = .ok (.aload_n 3, 1) := by decide +kernel
theorem dL_set_169 : decode cL_set 169 = .ok (.iconst 4, 1) := by decide +kernel
theorem dL_set_170 : decode cL_set 170 = .ok (.iload 7, 2) := by decide +kernel
theorem dL_set_172 : decode cL_set 172 = .ok (.iadd, 1) := by decide +kernel
theorem dL_set_173 : decode cL_set 173 = .ok (.iload_n 2, 1) := by decide +kernel
theorem dL_set_174 : decode cL_set 174 = .ok (.iload 7, 2) := by decide +kernel
theorem dL_set_176 : decode cL_set 176 = .ok (.ifCond .ne 8, 3) := by decide +kernel
theorem dL_set_179 : decode cL_set 179 = .ok (.bipush 51, 2) := by decide +kernel
theorem dL_set_181 : decode cL_set 181 = .ok (.goto 5, 3) := by decide +kernel
theorem dL_set_184 : decode cL_set 184 = .ok (.bipush 101, 2) := by decide +kernel
theorem dL_set_186 : decode cL_set 186 = .ok (.invokestatic 29, 3) := by decide +kernel
theorem dL_set_189 : decode cL_set 189 = .ok (.iastore, 1) := by decide +kernel
theorem dL_set_190 : decode cL_set 190 = .ok (.aload_n 0, 1) := by decide +kernel
theorem dL_set_191 : decode cL_set 191 = .ok (.iload 7, 2) := by decide +kernel
theorem dL_set_193 : decode cL_set 193 = .ok (.aload_n 3, 1) := by decide +kernel
theorem dL_set_194 : decode cL_set 194 = .ok (.iconst 4, 1) := by decide +kernel
theorem dL_set_195 : decode cL_set 195 = .ok (.iload 7, 2) := by decide +kernel
theorem dL_set_197 : decode cL_set 197 = .ok (.iadd, 1) := by decide +kernel
theorem dL_set_198 : decode cL_set 198 = .ok (.iaload, 1) := by decide +kernel
theorem dL_set_199 : decode cL_set 199 = .ok (.invokevirtual 42, 3) := by decide +kernel
theorem dL_set_202 : decode cL_set 202 = .ok (.iload 8, 2) := by decide +kernel
theorem dL_set_204 : decode cL_set 204 = .ok (.if_icmp .ne 7, 3) := by decide +kernel
theorem dL_set_207 : decode cL_set 207 = .ok (.iconst 1, 1) := by decide +kernel
theorem dL_set_208 : decode cL_set 208 = .ok (.goto 4, 3) := by decide +kernel
theorem dL_set_211 : decode cL_set 211 = .ok (.iconst 0, 1) := by decide +kernel
theorem dL_set_212 : decode cL_set 212 = .ok (.ireturn, 1) := by decide +kernel
theorem dL_set_213 : decode cL_set 213 = .ok (.iload_n 1, 1) := by decide +kernel
theorem dL_set_214 : decode cL_set 214 = .ok (.iconst 3, 1) := by decide +kernel
theorem dL_set_215 : decode cL_set 215 = .ok (.ishr, 1) := by decide +kernel
theorem dL_set_216 : decode cL_set 216 = .ok (.iconst 2, 1) := by decide +kernel
theorem dL_set_217 : decode cL_set 217 = .ok (.invokestatic 29, 3) := by decide +kernel
theorem dL_set_220 : decode cL_set 220 = .ok (.istore 7, 2) := by decide +kernel
theorem dL_set_222 : decode cL_set 222 = .ok (.iload_n 1, 1) := by decide +kernel
theorem dL_set_223 : decode cL_set 223 = .ok (.iconst 4, 1) := by decide +kernel
theorem dL_set_224 : decode cL_set 224 = .ok (.ishr, 1) := by decide +kernel
theorem dL_set_225 : decode cL_set 225 = .ok (.iconst 3, 1) := by decide +kernel
theorem dL_set_226 : decode cL_set 226 = .ok (.invokestatic 29, 3) := by decide +kernel
theorem dL_set_229 : decode cL_set 229 = .ok (.istore 8, 2) := by decide +kernel
theorem dL_set_231 : decode cL_set 231 = .ok (.iconst 4, 1) := by decide +kernel
theorem dL_set_232 : decode cL_set 232 = .ok (.iload 7, 2) := by decide +kernel
theorem dL_set_234 : decode cL_set 234 = .ok (.imul, 1) := by decide +kernel
theorem dL_set_235 : decode cL_set 235 = .ok (.istore 9, 2) := by decide +kernel
theorem dL_set_237 : decode cL_set 237 = .ok (.aload 5, 2) := by decide +kernel
theorem dL_set_239 : decode cL_set 239 = .ok (.iload 9, 2) := by decide +kernel
theorem dL_set_241 : decode cL_set 241 = .ok (.iload 8, 2) := by decide +kernel
theorem dL_set_243 : decode cL_set 243 = .ok (.iadd, 1) := by decide +kernel
theorem dL_set_244 : decode cL_set 244 = .ok (.iaload, 1) := by decide +kernel
theorem dL_set_245 : decode cL_set 245 = .ok (.istore 10, 2) := by decide +kernel
theorem dL_set_247 : decode cL_set 247 = .ok (.aload 5, 2) := by decide +kernel
theorem dL_set_249 : decode cL_set 249 = .ok (.iload 9, 2) := by decide +kernel
theorem dL_set_251 : decode cL_set 251 = .ok (.iload 8, 2) := by decide +kernel
theorem dL_set_253 : decode cL_set 253 = .ok (.iadd, 1) := by decide +kernel
theorem dL_set_254 : decode cL_set 254 = .ok (.iload 8, 2) := by decide +kernel
theorem dL_set_256 : decode cL_set 256 = .ok (.ifCond .ne 13, 3) := by decide +kernel
theorem dL_set_259 : decode cL_set 259 = .ok (.iload_n 2, 1) := by decide +kernel
theorem dL_set_260 : decode cL_set 260 = .ok (.sipush 200, 3) := by decide +kernel
theorem dL_set_263 : decode cL_set 263 = .ok (.invokestatic 29, 3) := by decide +kernel
theorem dL_set_266 : decode cL_set 266 = .ok (.goto 27, 3) := by decide +kernel
theorem dL_set_269 : decode cL_set 269 = .ok (.iload 8, 2) := by decide +kernel
theorem dL_set_271 : decode cL_set 271 = .ok (.iconst 1, 1) := by decide +kernel
theorem dL_set_272 : decode cL_set 272 = .ok (.if_icmp .ne 12, 3) := by decide +kernel
theorem dL_set_275 : decode cL_set 275 = .ok (.iload_n 2, 1) := by decide +kernel
theorem dL_set_276 : decode cL_set 276 = .ok (.bipush 60, 2) := by decide +kernel
theorem dL_set_278 : decode cL_set 278 = .ok (.invokestatic 29, 3) := by decide +kernel
theorem dL_set_281 : decode cL_set 281 = .ok (.goto 12, 3) := by decide +kernel
theorem dL_set_284 : decode cL_set 284 = .ok (.bipush 50, 2) := by decide +kernel
theorem dL_set_286 : decode cL_set 286 = .ok (.iload_n 2, 1) := by decide +kernel
theorem dL_set_287 : decode cL_set 287 = .ok (.bipush 51, 2) := by decide +kernel
theorem dL_set_289 : decode cL_set 289 = .ok (.invokestatic 29, 3) := by decide +kernel
theorem dL_set_292 : decode cL_set 292 = .ok (.iadd, 1) := by decide +kernel
theorem dL_set_293 : decode cL_set 293 = .ok (.iastore, 1) := by decide +kernel
theorem dL_set_294 : decode cL_set 294 = .ok (.aload 5, 2) := by decide +kernel
theorem dL_set_296 : decode cL_set 296 = .ok (.iload 9, 2) := by decide +kernel
theorem dL_set_298 : decode cL_set 298 = .ok (.iconst 3, 1) := by decide +kernel
theorem dL_set_299 : decode cL_set 299 = .ok (.iadd, 1) := by decide +kernel
theorem dL_set_300 : decode cL_set 300 = .ok (.iaload, 1) := by decide +kernel
theorem dL_set_301 : decode cL_set 301 = .ok (.aload 5, 2) := by decide +kernel
theorem dL_set_303 : decode cL_set 303 = .ok (.iload 9, 2) := by decide +kernel
theorem dL_set_305 : decode cL_set 305 = .ok (.iaload, 1) := by decide +kernel
theorem dL_set_306 : decode cL_set 306 = .ok (.if_icmp .le 35, 3) := by decide +kernel
theorem dL_set_309 : decode cL_set 309 = .ok (.aload_n 3, 1) := by decide +kernel
theorem dL_set_310 : decode cL_set 310 = .ok (.bipush 12, 2) := by decide +kernel
theorem dL_set_312 : decode cL_set 312 = .ok (.dup2, 1) := by decide +kernel
theorem dL_set_313 : decode cL_set 313 = .ok (.iaload, 1) := by decide +kernel
theorem dL_set_314 : decode cL_set 314 = .ok (.aload 5, 2) := by decide +kernel
theorem dL_set_316 : decode cL_set 316 = .ok (.iload 9, 2) := by decide +kernel
theorem dL_set_318 : decode cL_set 318 = .ok (.iconst 3, 1) := by decide +kernel
theorem dL_set_319 : decode cL_set 319 = .ok (.iadd, 1) := by decide +kernel
theorem dL_set_320 : decode cL_set 320 = .ok (.iaload, 1) := by decide +kernel
theorem dL_set_321 : decode cL_set 321 = .ok (.aload 5, 2) := by decide +kernel
theorem dL_set_323 : decode cL_set 323 = .ok (.iload 9, 2) := by decide +kernel
theorem dL_set_325 : decode cL_set 325 = .ok (.iaload, 1) := by decide +kernel
theorem dL_set_326 : decode cL_set 326 = .ok (.isub, 1) := by decide +kernel
theorem dL_set_327 : decode cL_set 327 = .ok (.iadd, 1) := by decide +kernel
theorem dL_set_328 : decode cL_set 328 = .ok (.iastore, 1) := by decide +kernel
theorem dL_set_329 : decode cL_set 329 = .ok (.aload 5, 2) := by decide +kernel
theorem dL_set_331 : decode cL_set 331 = .ok (.iload 9, 2) := by decide +kernel
theorem dL_set_333 : decode cL_set 333 = .ok (.iconst 3, 1) := by decide +kernel
theorem dL_set_334 : decode cL_set 334 = .ok (.iadd, 1) := by decide +kernel
theorem dL_set_335 : decode cL_set 335 = .ok (.aload 5, 2) := by decide +kernel
theorem dL_set_337 : decode cL_set 337 = .ok (.iload 9, 2) := by decide +kernel
theorem dL_set_339 : decode cL_set 339 = .ok (.iaload, 1) := by decide +kernel
theorem dL_set_340 : decode cL_set 340 = .ok (.iastore, 1) := by decide +kernel
theorem dL_set_341 : decode cL_set 341 = .ok (.aload_n 0, 1) := by decide +kernel
theorem dL_set_342 : decode cL_set 342 = .ok (.iload 7, 2) := by decide +kernel
theorem dL_set_344 : decode cL_set 344 = .ok (.iload 8, 2) := by decide +kernel
theorem dL_set_346 : decode cL_set 346 = .ok (.aload 5, 2) := by decide +kernel
theorem dL_set_348 : decode cL_set 348 = .ok (.iload 9, 2) := by decide +kernel
theorem dL_set_350 : decode cL_set 350 = .ok (.iload 8, 2) := by decide +kernel
theorem dL_set_352 : decode cL_set 352 = .ok (.iadd, 1) := by decide +kernel
theorem dL_set_353 : decode cL_set 353 = .ok (.iaload, 1) := by decide +kernel
theorem dL_set_354 : decode cL_set 354 = .ok (.invokevirtual 45, 3) := by decide +kernel
theorem dL_set_357 : decode cL_set 357 = .ok (.iload 10, 2) := by decide +kernel
theorem dL_set_359 : decode cL_set 359 = .ok (.if_icmp .ne 7, 3) := by decide +kernel
theorem dL_set_362 : decode cL_set 362 = .ok (.iconst 1, 1) := by decide +kernel
theorem dL_set_363 : decode cL_set 363 = .ok (.goto 4, 3) := by decide +kernel
theorem dL_set_366 : decode cL_set 366 = .ok (.iconst 0, 1) := by decide +kernel
theorem dL_set_367 : decode cL_set 367 = .ok (.ireturn, 1) := by decide +kernel
theorem dL_buy_0 : decode cL_buy 0 = .ok (.iload_n 1, 1) := by decide +kernel
theorem dL_buy_1 : decode cL_buy 1 = .ok (.aload_n 3, 1) := by decide +kernel
theorem dL_buy_2 : decode cL_buy 2 = .ok (.iconst 0, 1) := by decide +kernel
theorem dL_buy_3 : decode cL_buy 3 = .ok (.iaload, 1) := by decide +kernel
theorem dL_buy_4 : decode cL_buy 4 = .ok (.invokestatic 29, 3) := by decide +kernel
theorem dL_buy_7 : decode cL_buy 7 = .ok (.istore 6, 2) := by decide +kernel
theorem dL_buy_9 : decode cL_buy 9 = .ok (.iconst 1, 1) := by decide +kernel
theorem dL_buy_10 : decode cL_buy 10 = .ok (.iload_n 2, 1) := by decide +kernel
theorem dL_buy_11 : decode cL_buy 11 = .ok (.iload_n 1, 1) := by decide +kernel
theorem dL_buy_12 : decode cL_buy 12 = .ok (.iconst 4, 1) := by decide +kernel
theorem dL_buy_13 : decode cL_buy 13 = .ok (.ishr, 1) := by decide +kernel
theorem dL_buy_14 : decode cL_buy 14 = .ok (.iconst 3, 1) := by decide +kernel
theorem dL_buy_15 : decode cL_buy 15 = .ok (.invokestatic 29, 3) := by decide +kernel
theorem dL_buy_18 : decode cL_buy 18 = .ok (.ifCond .ne 9, 3) := by decide +kernel
theorem dL_buy_21 : decode cL_buy 21 = .ok (.sipush 500, 3) := by decide +kernel
theorem dL_buy_24 : decode cL_buy 24 = .ok (.goto 5, 3) := by decide +kernel
theorem dL_buy_27 : decode cL_buy 27 = .ok (.bipush 80, 2) := by decide +kernel
theorem dL_buy_29 : decode cL_buy 29 = .ok (.invokestatic 29, 3) := by decide +kernel
theorem dL_buy_32 : decode cL_buy 32 = .ok (.iadd, 1) := by decide +kernel
theorem dL_buy_33 : decode cL_buy 33 = .ok (.istore 7, 2) := by decide +kernel
theorem dL_buy_35 : decode cL_buy 35 = .ok (.iload 6, 2) := by decide +kernel
theorem dL_buy_37 : decode cL_buy 37 = .ok (.iload 7, 2) := by decide +kernel
theorem dL_buy_39 : decode cL_buy 39 = .ok (.aload_n 3, 1) := by decide +kernel
theorem dL_buy_40 : decode cL_buy 40 = .ok (.aload 4, 2) := by decide +kernel
theorem dL_buy_42 : decode cL_buy 42 = .ok (.aload 5, 2) := by decide +kernel
theorem dL_buy_44 : decode cL_buy 44 = .ok (.invokestatic 48, 3) := by decide +kernel
theorem dL_buy_47 : decode cL_buy 47 = .ok (.aload_n 0, 1) := by decide +kernel
theorem dL_buy_48 : decode cL_buy 48 = .ok (.iload 6, 2) := by decide +kernel
theorem dL_buy_50 : decode cL_buy 50 = .ok (.iload 7, 2) := by decide +kernel
theorem dL_buy_52 : decode cL_buy 52 = .ok (.invokevirtual 52, 3) := by decide +kernel
theorem dL_buy_55 : decode cL_buy 55 = .ok (.aload 4, 2) := by decide +kernel
theorem dL_buy_57 : decode cL_buy 57 = .ok (.bipush 6, 2) := by decide +kernel
theorem dL_buy_59 : decode cL_buy 59 = .ok (.iload 6, 2) := by decide +kernel
theorem dL_buy_61 : decode cL_buy 61 = .ok (.imul, 1) := by decide +kernel
theorem dL_buy_62 : decode cL_buy 62 = .ok (.iconst 4, 1) := by decide +kernel
theorem dL_buy_63 : decode cL_buy 63 = .ok (.iadd, 1) := by decide +kernel
theorem dL_buy_64 : decode cL_buy 64 = .ok (.iaload, 1) := by decide +kernel
theorem dL_buy_65 : decode cL_buy 65 = .ok (.if_icmp .ne 7, 3) := by decide +kernel
theorem dL_buy_68 : decode cL_buy 68 = .ok (.iconst 1, 1) := by decide +kernel
theorem dL_buy_69 : decode cL_buy 69 = .ok (.goto 4, 3) := by decide +kernel
theorem dL_buy_72 : decode cL_buy 72 = .ok (.iconst 0, 1) := by decide +kernel
theorem dL_buy_73 : decode cL_buy 73 = .ok (.ireturn, 1) := by decide +kernel
theorem dL_lend_0 : decode cL_lend 0 = .ok (.iload_n 1, 1) := by decide +kernel
theorem dL_lend_1 : decode cL_lend 1 = .ok (.aload_n 3, 1) := by decide +kernel
theorem dL_lend_2 : decode cL_lend 2 = .ok (.iconst 0, 1) := by decide +kernel
theorem dL_lend_3 : decode cL_lend 3 = .ok (.iaload, 1) := by decide +kernel
theorem dL_lend_4 : decode cL_lend 4 = .ok (.invokestatic 29, 3) := by decide +kernel
theorem dL_lend_7 : decode cL_lend 7 = .ok (.istore 6, 2) := by decide +kernel
theorem dL_lend_9 : decode cL_lend 9 = .ok (.iload_n 1, 1) := by decide +kernel
theorem dL_lend_10 : decode cL_lend 10 = .ok (.iconst 4, 1) := by decide +kernel
theorem dL_lend_11 : decode cL_lend 11 = .ok (.ishr, 1) := by decide +kernel
theorem dL_lend_12 : decode cL_lend 12 = .ok (.aload_n 3, 1) := by decide +kernel
theorem dL_lend_13 : decode cL_lend 13 = .ok (.iconst 0, 1) := by decide +kernel
theorem dL_lend_14 : decode cL_lend 14 = .ok (.iaload, 1) := by decide +kernel
theorem dL_lend_15 : decode cL_lend 15 = .ok (.invokestatic 29, 3) := by decide +kernel
theorem dL_lend_18 : decode cL_lend 18 = .ok (.istore 7, 2) := by decide +kernel
theorem dL_lend_20 : decode cL_lend 20 = .ok (.iconst 1, 1) := by decide +kernel
theorem dL_lend_21 : decode cL_lend 21 = .ok (.iload_n 2, 1) := by decide +kernel
theorem dL_lend_22 : decode cL_lend 22 = .ok (.bipush 40, 2) := by decide +kernel
theorem dL_lend_24 : decode cL_lend 24 = .ok (.invokestatic 29, 3) := by decide +kernel
theorem dL_lend_27 : decode cL_lend 27 = .ok (.iadd, 1) := by decide +kernel
theorem dL_lend_28 : decode cL_lend 28 = .ok (.istore 8, 2) := by decide +kernel
theorem dL_lend_30 : decode cL_lend 30 = .ok (.iload 6, 2) := by decide +kernel
theorem dL_lend_32 : decode cL_lend 32 = .ok (.iload 7, 2) := by decide +kernel
theorem dL_lend_34 : decode cL_lend 34 = .ok (.if_icmp .ne 24, 3) := by decide +kernel
theorem dL_lend_37 : decode cL_lend 37 = .ok (.aload_n 0, 1) := by decide +kernel
theorem dL_lend_38 : decode cL_lend 38 = .ok (.iload 6, 2) := by decide +kernel
theorem dL_lend_40 : decode cL_lend 40 = .ok (.iload 7, 2) := by decide +kernel
theorem dL_lend_42 : decode cL_lend 42 = .ok (.iload 8, 2) := by decide +kernel
theorem dL_lend_44 : decode cL_lend 44 = .ok (.invokevirtual 55, 3) := by decide +kernel
theorem dL_lend_47 : decode cL_lend 47 = .ok (.ldc 58, 2) := by decide +kernel
theorem dL_lend_49 : decode cL_lend 49 = .ok (.if_icmp .ne 7, 3) := by decide +kernel
theorem dL_lend_52 : decode cL_lend 52 = .ok (.iconst 1, 1) := by decide +kernel
theorem dL_lend_53 : decode cL_lend 53 = .ok (.goto 4, 3) := by decide +kernel
theorem dL_lend_56 : decode cL_lend 56 = .ok (.iconst 0, 1) := by decide +kernel
theorem dL_lend_57 : decode cL_lend 57 = .ok (.ireturn, 1) := by decide +kernel
theorem dL_lend_58 : decode cL_lend 58 = .ok (.aload 4, 2) := by decide +kernel
theorem dL_lend_60 : decode cL_lend 60 = .ok (.bipush 6, 2) := by decide +kernel
theorem dL_lend_62 : decode cL_lend 62 = .ok (.iload 6, 2) := by decide +kernel
theorem dL_lend_64 : decode cL_lend 64 = .ok (.imul, 1) := by decide +kernel
theorem dL_lend_65 : decode cL_lend 65 = .ok (.iconst 4, 1) := by decide +kernel
theorem dL_lend_66 : decode cL_lend 66 = .ok (.iadd, 1) := by decide +kernel
theorem dL_lend_67 : decode cL_lend 67 = .ok (.iaload, 1) := by decide +kernel
theorem dL_lend_68 : decode cL_lend 68 = .ok (.iload 8, 2) := by decide +kernel
theorem dL_lend_70 : decode cL_lend 70 = .ok (.if_icmp .ge 24, 3) := by decide +kernel
theorem dL_lend_73 : decode cL_lend 73 = .ok (.aload_n 0, 1) := by decide +kernel
theorem dL_lend_74 : decode cL_lend 74 = .ok (.iload 6, 2) := by decide +kernel
theorem dL_lend_76 : decode cL_lend 76 = .ok (.iload 7, 2) := by decide +kernel
theorem dL_lend_78 : decode cL_lend 78 = .ok (.iload 8, 2) := by decide +kernel
theorem dL_lend_80 : decode cL_lend 80 = .ok (.invokevirtual 55, 3) := by decide +kernel
theorem dL_lend_83 : decode cL_lend 83 = .ok (.ldc 59, 2) := by decide +kernel
theorem dL_lend_85 : decode cL_lend 85 = .ok (.if_icmp .ne 7, 3) := by decide +kernel
theorem dL_lend_88 : decode cL_lend 88 = .ok (.iconst 1, 1) := by decide +kernel
theorem dL_lend_89 : decode cL_lend 89 = .ok (.goto 4, 3) := by decide +kernel
theorem dL_lend_92 : decode cL_lend 92 = .ok (.iconst 0, 1) := by decide +kernel
theorem dL_lend_93 : decode cL_lend 93 = .ok (.ireturn, 1) := by decide +kernel
theorem dL_lend_94 : decode cL_lend 94 = .ok (.aload_n 3, 1) := by decide +kernel
theorem dL_lend_95 : decode cL_lend 95 = .ok (.iconst 1, 1) := by decide +kernel
theorem dL_lend_96 : decode cL_lend 96 = .ok (.iaload, 1) := by decide +kernel
theorem dL_lend_97 : decode cL_lend 97 = .ok (.bipush 10, 2) := by decide +kernel
theorem dL_lend_99 : decode cL_lend 99 = .ok (.if_icmp .ne 5, 3) := by decide +kernel
theorem dL_lend_102 : decode cL_lend 102 = .ok (.iconst 1, 1) := by decide +kernel
theorem dL_lend_103 : decode cL_lend 103 = .ok (.ireturn, 1) := by decide +kernel
theorem dL_lend_104 : decode cL_lend 104 = .ok (.iconst 3, 1) := by decide +kernel
theorem dL_lend_105 : decode cL_lend 105 = .ok (.aload_n 3, 1) := by decide +kernel
theorem dL_lend_106 : decode cL_lend 106 = .ok (.iconst 1, 1) := by decide +kernel
theorem dL_lend_107 : decode cL_lend 107 = .ok (.iaload, 1) := by decide +kernel
theorem dL_lend_108 : decode cL_lend 108 = .ok (.imul, 1) := by decide +kernel
theorem dL_lend_109 : decode cL_lend 109 = .ok (.istore 9, 2) := by decide +kernel
theorem dL_lend_111 : decode cL_lend 111 = .ok (.aload 5, 2) := by decide +kernel
theorem dL_lend_113 : decode cL_lend 113 = .ok (.iload 9, 2) := by decide +kernel
theorem dL_lend_115 : decode cL_lend 115 = .ok (.iload 6, 2) := by decide +kernel
theorem dL_lend_117 : decode cL_lend 117 = .ok (.iastore, 1) := by decide +kernel
theorem dL_lend_118 : decode cL_lend 118 = .ok (.aload 5, 2) := by decide +kernel
theorem dL_lend_120 : decode cL_lend 120 = .ok (.iload 9, 2) := by decide +kernel
theorem dL_lend_122 : decode cL_lend 122 = .ok (.iconst 1, 1) := by decide +kernel
theorem dL_lend_123 : decode cL_lend 123 = .ok (.iadd, 1) := by decide +kernel
theorem dL_lend_124 : decode cL_lend 124 = .ok (.iload 7, 2) := by decide +kernel
theorem dL_lend_126 : decode cL_lend 126 = .ok (.iastore, 1) := by decide +kernel
theorem dL_lend_127 : decode cL_lend 127 = .ok (.aload 5, 2) := by decide +kernel
theorem dL_lend_129 : decode cL_lend 129 = .ok (.iload 9, 2) := by decide +kernel
theorem dL_lend_131 : decode cL_lend 131 = .ok (.iconst 2, 1) := by decide +kernel
theorem dL_lend_132 : decode cL_lend 132 = .ok (.iadd, 1) := by decide +kernel
theorem dL_lend_133 : decode cL_lend 133 = .ok (.iload 8, 2) := by decide +kernel
theorem dL_lend_135 : decode cL_lend 135 = .ok (.iastore, 1) := by decide +kernel
theorem dL_lend_136 : decode cL_lend 136 = .ok (.aload 4, 2) := by decide +kernel
theorem dL_lend_138 : decode cL_lend 138 = .ok (.bipush 6, 2) := by decide +kernel
theorem dL_lend_140 : decode cL_lend 140 = .ok (.iload 6, 2) := by decide +kernel
theorem dL_lend_142 : decode cL_lend 142 = .ok (.imul, 1) := by decide +kernel
theorem dL_lend_143 : decode cL_lend 143 = .ok (.iconst 4, 1) := by decide +kernel
theorem dL_lend_144 : decode cL_lend 144 = .ok (.iadd, 1) := by decide +kernel
theorem dL_lend_145 : decode cL_lend 145 = .ok (.dup2, 1) := by decide +kernel
theorem dL_lend_146 : decode cL_lend 146 = .ok (.iaload, 1) := by decide +kernel
theorem dL_lend_147 : decode cL_lend 147 = .ok (.iload 8, 2) := by decide +kernel
theorem dL_lend_149 : decode cL_lend 149 = .ok (.isub, 1) := by decide +kernel
theorem dL_lend_150 : decode cL_lend 150 = .ok (.iastore, 1) := by decide +kernel
theorem dL_lend_151 : decode cL_lend 151 = .ok (.aload 4, 2) := by decide +kernel
theorem dL_lend_153 : decode cL_lend 153 = .ok (.bipush 6, 2) := by decide +kernel
theorem dL_lend_155 : decode cL_lend 155 = .ok (.iload 7, 2) := by decide +kernel
theorem dL_lend_157 : decode cL_lend 157 = .ok (.imul, 1) := by decide +kernel
theorem dL_lend_158 : decode cL_lend 158 = .ok (.iconst 4, 1) := by decide +kernel
theorem dL_lend_159 : decode cL_lend 159 = .ok (.iadd, 1) := by decide +kernel
theorem dL_lend_160 : decode cL_lend 160 = .ok (.dup2, 1) := by decide +kernel
theorem dL_lend_161 : decode cL_lend 161 = .ok (.iaload, 1) := by decide +kernel
theorem dL_lend_162 : decode cL_lend 162 = .ok (.iload 8, 2) := by decide +kernel
theorem dL_lend_164 : decode cL_lend 164 = .ok (.iadd, 1) := by decide +kernel
theorem dL_lend_165 : decode cL_lend 165 = .ok (.iastore, 1) := by decide +kernel
theorem dL_lend_166 : decode cL_lend 166 = .ok (.aload_n 3, 1) := by decide +kernel
theorem dL_lend_167 : decode cL_lend 167 = .ok (.iconst 1, 1) := by decide +kernel
theorem dL_lend_168 : decode cL_lend 168 = .ok (.dup2, 1) := by decide +kernel
theorem dL_lend_169 : decode cL_lend 169 = .ok (.iaload, 1) := by decide +kernel
theorem dL_lend_170 : decode cL_lend 170 = .ok (.iconst 1, 1) := by decide +kernel
theorem dL_lend_171 : decode cL_lend 171 = .ok (.iadd, 1) := by decide +kernel
theorem dL_lend_172 : decode cL_lend 172 = .ok (.iastore, 1) := by decide +kernel
theorem dL_lend_173 : decode cL_lend 173 = .ok (.aload_n 0, 1) := by decide +kernel
theorem dL_lend_174 : decode cL_lend 174 = .ok (.iload 6, 2) := by decide +kernel
theorem dL_lend_176 : decode cL_lend 176 = .ok (.iload 7, 2) := by decide +kernel
theorem dL_lend_178 : decode cL_lend 178 = .ok (.iload 8, 2) := by decide +kernel
theorem dL_lend_180 : decode cL_lend 180 = .ok (.invokevirtual 55, 3) := by decide +kernel
theorem dL_lend_183 : decode cL_lend 183 = .ok (.aload_n 3, 1) := by decide +kernel
theorem dL_lend_184 : decode cL_lend 184 = .ok (.iconst 1, 1) := by decide +kernel
theorem dL_lend_185 : decode cL_lend 185 = .ok (.iaload, 1) := by decide +kernel
theorem dL_lend_186 : decode cL_lend 186 = .ok (.if_icmp .ne 7, 3) := by decide +kernel
theorem dL_lend_189 : decode cL_lend 189 = .ok (.iconst 1, 1) := by decide +kernel
theorem dL_lend_190 : decode cL_lend 190 = .ok (.goto 4, 3) := by decide +kernel
theorem dL_lend_193 : decode cL_lend 193 = .ok (.iconst 0, 1) := by decide +kernel
theorem dL_lend_194 : decode cL_lend 194 = .ok (.ireturn, 1) := by decide +kernel
theorem dL_run_0 : decode cL_run 0 = .ok (.iconst 1, 1) := by decide +kernel
theorem dL_run_1 : decode cL_run 1 = .ok (.iload_n 1, 1) := by decide +kernel
theorem dL_run_2 : decode cL_run 2 = .ok (.bipush 8, 2) := by decide +kernel
theorem dL_run_4 : decode cL_run 4 = .ok (.invokestatic 29, 3) := by decide +kernel
theorem dL_run_7 : decode cL_run 7 = .ok (.iadd, 1) := by decide +kernel
theorem dL_run_8 : decode cL_run 8 = .ok (.istore 7, 2) := by decide +kernel
theorem dL_run_10 : decode cL_run 10 = .ok (.aload_n 2, 1) := by decide +kernel
theorem dL_run_11 : decode cL_run 11 = .ok (.bipush 9, 2) := by decide +kernel
theorem dL_run_13 : decode cL_run 13 = .ok (.iaload, 1) := by decide +kernel
theorem dL_run_14 : decode cL_run 14 = .ok (.istore 8, 2) := by decide +kernel
theorem dL_run_16 : decode cL_run 16 = .ok (.iconst 0, 1) := by decide +kernel
theorem dL_run_17 : decode cL_run 17 = .ok (.istore 9, 2) := by decide +kernel
theorem dL_run_19 : decode cL_run 19 = .ok (.iload 9, 2) := by decide +kernel
theorem dL_run_21 : decode cL_run 21 = .ok (.iload 7, 2) := by decide +kernel
theorem dL_run_23 : decode cL_run 23 = .ok (.if_icmp .ge 20, 3) := by decide +kernel
theorem dL_run_26 : decode cL_run 26 = .ok (.aload_n 2, 1) := by decide +kernel
theorem dL_run_27 : decode cL_run 27 = .ok (.aload_n 3, 1) := by decide +kernel
theorem dL_run_28 : decode cL_run 28 = .ok (.aload 4, 2) := by decide +kernel
theorem dL_run_30 : decode cL_run 30 = .ok (.aload 5, 2) := by decide +kernel
theorem dL_run_32 : decode cL_run 32 = .ok (.aload 6, 2) := by decide +kernel
theorem dL_run_34 : decode cL_run 34 = .ok (.invokestatic 60, 3) := by decide +kernel
theorem dL_run_37 : decode cL_run 37 = .ok (.iinc 9 1, 3) := by decide +kernel
theorem dL_run_40 : decode cL_run 40 = .ok (.goto (-21), 3) := by decide +kernel
theorem dL_run_43 : decode cL_run 43 = .ok (.aload_n 0, 1) := by decide +kernel
theorem dL_run_44 : decode cL_run 44 = .ok (.iload 7, 2) := by decide +kernel
theorem dL_run_46 : decode cL_run 46 = .ok (.invokevirtual 64, 3) := by decide +kernel
theorem dL_run_49 : decode cL_run 49 = .ok (.aload_n 2, 1) := by decide +kernel
theorem dL_run_50 : decode cL_run 50 = .ok (.bipush 9, 2) := by decide +kernel
theorem dL_run_52 : decode cL_run 52 = .ok (.iaload, 1) := by decide +kernel
theorem dL_run_53 : decode cL_run 53 = .ok (.iload 8, 2) := by decide +kernel
theorem dL_run_55 : decode cL_run 55 = .ok (.isub, 1) := by decide +kernel
theorem dL_run_56 : decode cL_run 56 = .ok (.if_icmp .ne 7, 3) := by decide +kernel
theorem dL_run_59 : decode cL_run 59 = .ok (.iconst 1, 1) := by decide +kernel
theorem dL_run_60 : decode cL_run 60 = .ok (.goto 4, 3) := by decide +kernel
theorem dL_run_63 : decode cL_run 63 = .ok (.iconst 0, 1) := by decide +kernel
theorem dL_run_64 : decode cL_run 64 = .ok (.ireturn, 1) := by decide +kernel
theorem dL_told_0 : decode cL_told 0 = .ok (.iconst 0, 1) := by decide +kernel
theorem dL_told_1 : decode cL_told 1 = .ok (.istore 6, 2) := by decide +kernel
theorem dL_told_3 : decode cL_told 3 = .ok (.iconst 0, 1) := by decide +kernel
theorem dL_told_4 : decode cL_told 4 = .ok (.istore 7, 2) := by decide +kernel
theorem dL_told_6 : decode cL_told 6 = .ok (.iconst 0, 1) := by decide +kernel
theorem dL_told_7 : decode cL_told 7 = .ok (.istore 8, 2) := by decide +kernel
theorem dL_told_9 : decode cL_told 9 = .ok (.iconst 0, 1) := by decide +kernel
theorem dL_told_10 : decode cL_told 10 = .ok (.istore 9, 2) := by decide +kernel
theorem dL_told_12 : decode cL_told 12 = .ok (.iload 9, 2) := by decide +kernel
theorem dL_told_14 : decode cL_told 14 = .ok (.aload_n 1, 1) := by decide +kernel
theorem dL_told_15 : decode cL_told 15 = .ok (.iconst 0, 1) := by decide +kernel
theorem dL_told_16 : decode cL_told 16 = .ok (.iaload, 1) := by decide +kernel
theorem dL_told_17 : decode cL_told 17 = .ok (.if_icmp .ge 192, 3) := by decide +kernel
theorem dL_told_20 : decode cL_told 20 = .ok (.bipush 6, 2) := by decide +kernel
theorem dL_told_22 : decode cL_told 22 = .ok (.iload 9, 2) := by decide +kernel
theorem dL_told_24 : decode cL_told 24 = .ok (.imul, 1) := by decide +kernel
theorem dL_told_25 : decode cL_told 25 = .ok (.istore 10, 2) := by decide +kernel
theorem dL_told_27 : decode cL_told 27 = .ok (.iconst 0, 1) := by decide +kernel
theorem dL_told_28 : decode cL_told 28 = .ok (.istore 11, 2) := by decide +kernel
theorem dL_told_30 : decode cL_told 30 = .ok (.iload 11, 2) := by decide +kernel
theorem dL_told_32 : decode cL_told 32 = .ok (.iconst 5, 1) := by decide +kernel
theorem dL_told_33 : decode cL_told 33 = .ok (.if_icmp .ge 29, 3) := by decide +kernel
theorem dL_told_36 : decode cL_told 36 = .ok (.aload_n 0, 1) := by decide +kernel
theorem dL_told_37 : decode cL_told 37 = .ok (.iload 9, 2) := by decide +kernel
theorem dL_told_39 : decode cL_told 39 = .ok (.iload 11, 2) := by decide +kernel
theorem dL_told_41 : decode cL_told 41 = .ok (.invokevirtual 68, 3) := by decide +kernel
theorem dL_told_44 : decode cL_told 44 = .ok (.aload_n 2, 1) := by decide +kernel
theorem dL_told_45 : decode cL_told 45 = .ok (.iload 10, 2) := by decide +kernel
theorem dL_told_47 : decode cL_told 47 = .ok (.iload 11, 2) := by decide +kernel
theorem dL_told_49 : decode cL_told 49 = .ok (.iadd, 1) := by decide +kernel
theorem dL_told_50 : decode cL_told 50 = .ok (.iaload, 1) := by decide +kernel
theorem dL_told_51 : decode cL_told 51 = .ok (.if_icmp .eq 5, 3) := by decide +kernel
theorem dL_told_54 : decode cL_told 54 = .ok (.iconst 0, 1) := by decide +kernel
theorem dL_told_55 : decode cL_told 55 = .ok (.ireturn, 1) := by decide +kernel
theorem dL_told_56 : decode cL_told 56 = .ok (.iinc 11 1, 3) := by decide +kernel
theorem dL_told_59 : decode cL_told 59 = .ok (.goto (-29), 3) := by decide +kernel
theorem dL_told_62 : decode cL_told 62 = .ok (.aload_n 0, 1) := by decide +kernel
theorem dL_told_63 : decode cL_told 63 = .ok (.iload 9, 2) := by decide +kernel
theorem dL_told_65 : decode cL_told 65 = .ok (.iconst 5, 1) := by decide +kernel
theorem dL_told_66 : decode cL_told 66 = .ok (.invokevirtual 68, 3) := by decide +kernel
theorem dL_told_69 : decode cL_told 69 = .ok (.iload 9, 2) := by decide +kernel
theorem dL_told_71 : decode cL_told 71 = .ok (.aload_n 1, 1) := by decide +kernel
theorem dL_told_72 : decode cL_told 72 = .ok (.aload_n 2, 1) := by decide +kernel
theorem dL_told_73 : decode cL_told 73 = .ok (.invokestatic 8, 3) := by decide +kernel
theorem dL_told_76 : decode cL_told 76 = .ok (.if_icmp .ne 93, 3) := by decide +kernel
theorem dL_told_79 : decode cL_told 79 = .ok (.aload_n 0, 1) := by decide +kernel
theorem dL_told_80 : decode cL_told 80 = .ok (.iload 9, 2) := by decide +kernel
theorem dL_told_82 : decode cL_told 82 = .ok (.bipush 6, 2) := by decide +kernel
theorem dL_told_84 : decode cL_told 84 = .ok (.invokevirtual 68, 3) := by decide +kernel
theorem dL_told_87 : decode cL_told 87 = .ok (.aload_n 3, 1) := by decide +kernel
theorem dL_told_88 : decode cL_told 88 = .ok (.iload 9, 2) := by decide +kernel
theorem dL_told_90 : decode cL_told 90 = .ok (.iaload, 1) := by decide +kernel
theorem dL_told_91 : decode cL_told 91 = .ok (.if_icmp .ne 78, 3) := by decide +kernel
theorem dL_told_94 : decode cL_told 94 = .ok (.aload_n 0, 1) := by decide +kernel
theorem dL_told_95 : decode cL_told 95 = .ok (.iload 9, 2) := by decide +kernel
theorem dL_told_97 : decode cL_told 97 = .ok (.bipush 7, 2) := by decide +kernel
theorem dL_told_99 : decode cL_told 99 = .ok (.invokevirtual 68, 3) := by decide +kernel
theorem dL_told_102 : decode cL_told 102 = .ok (.aload_n 3, 1) := by decide +kernel
theorem dL_told_103 : decode cL_told 103 = .ok (.bipush 8, 2) := by decide +kernel
theorem dL_told_105 : decode cL_told 105 = .ok (.iload 9, 2) := by decide +kernel
theorem dL_told_107 : decode cL_told 107 = .ok (.iadd, 1) := by decide +kernel
theorem dL_told_108 : decode cL_told 108 = .ok (.iaload, 1) := by decide +kernel
theorem dL_told_109 : decode cL_told 109 = .ok (.if_icmp .ne 60, 3) := by decide +kernel
theorem dL_told_112 : decode cL_told 112 = .ok (.aload_n 0, 1) := by decide +kernel
theorem dL_told_113 : decode cL_told 113 = .ok (.iload 9, 2) := by decide +kernel
theorem dL_told_115 : decode cL_told 115 = .ok (.bipush 8, 2) := by decide +kernel
theorem dL_told_117 : decode cL_told 117 = .ok (.invokevirtual 68, 3) := by decide +kernel
theorem dL_told_120 : decode cL_told 120 = .ok (.aload_n 2, 1) := by decide +kernel
theorem dL_told_121 : decode cL_told 121 = .ok (.iload 10, 2) := by decide +kernel
theorem dL_told_123 : decode cL_told 123 = .ok (.iconst 5, 1) := by decide +kernel
theorem dL_told_124 : decode cL_told 124 = .ok (.iadd, 1) := by decide +kernel
theorem dL_told_125 : decode cL_told 125 = .ok (.iaload, 1) := by decide +kernel
theorem dL_told_126 : decode cL_told 126 = .ok (.if_icmp .ne 43, 3) := by decide +kernel
theorem dL_told_129 : decode cL_told 129 = .ok (.aload_n 0, 1) := by decide +kernel
theorem dL_told_130 : decode cL_told 130 = .ok (.iload 9, 2) := by decide +kernel
theorem dL_told_132 : decode cL_told 132 = .ok (.bipush 9, 2) := by decide +kernel
theorem dL_told_134 : decode cL_told 134 = .ok (.invokevirtual 68, 3) := by decide +kernel
theorem dL_told_137 : decode cL_told 137 = .ok (.iload 9, 2) := by decide +kernel
theorem dL_told_139 : decode cL_told 139 = .ok (.iconst 1, 1) := by decide +kernel
theorem dL_told_140 : decode cL_told 140 = .ok (.aload_n 1, 1) := by decide +kernel
theorem dL_told_141 : decode cL_told 141 = .ok (.aload 4, 2) := by decide +kernel
theorem dL_told_143 : decode cL_told 143 = .ok (.invokestatic 22, 3) := by decide +kernel
theorem dL_told_146 : decode cL_told 146 = .ok (.if_icmp .ne 23, 3) := by decide +kernel
theorem dL_told_149 : decode cL_told 149 = .ok (.aload_n 0, 1) := by decide +kernel
theorem dL_told_150 : decode cL_told 150 = .ok (.iload 9, 2) := by decide +kernel
theorem dL_told_152 : decode cL_told 152 = .ok (.bipush 10, 2) := by decide +kernel
theorem dL_told_154 : decode cL_told 154 = .ok (.invokevirtual 68, 3) := by decide +kernel
theorem dL_told_157 : decode cL_told 157 = .ok (.iload 9, 2) := by decide +kernel
theorem dL_told_159 : decode cL_told 159 = .ok (.iconst 0, 1) := by decide +kernel
theorem dL_told_160 : decode cL_told 160 = .ok (.aload_n 1, 1) := by decide +kernel
theorem dL_told_161 : decode cL_told 161 = .ok (.aload 4, 2) := by decide +kernel
theorem dL_told_163 : decode cL_told 163 = .ok (.invokestatic 22, 3) := by decide +kernel
theorem dL_told_166 : decode cL_told 166 = .ok (.if_icmp .eq 5, 3) := by decide +kernel
theorem dL_told_169 : decode cL_told 169 = .ok (.iconst 0, 1) := by decide +kernel
theorem dL_told_170 : decode cL_told 170 = .ok (.ireturn, 1) := by decide +kernel
theorem dL_told_171 : decode cL_told 171 = .ok (.iload 6, 2) := by decide +kernel
theorem dL_told_173 : decode cL_told 173 = .ok (.aload_n 3, 1) := by decide +kernel
theorem dL_told_174 : decode cL_told 174 = .ok (.iload 9, 2) := by decide +kernel
theorem dL_told_176 : decode cL_told 176 = .ok (.iaload, 1) := by decide +kernel
theorem dL_told_177 : decode cL_told 177 = .ok (.iadd, 1) := by decide +kernel
theorem dL_told_178 : decode cL_told 178 = .ok (.istore 6, 2) := by decide +kernel
theorem dL_told_180 : decode cL_told 180 = .ok (.iload 7, 2) := by decide +kernel
theorem dL_told_182 : decode cL_told 182 = .ok (.aload_n 2, 1) := by decide +kernel
theorem dL_told_183 : decode cL_told 183 = .ok (.iload 10, 2) := by decide +kernel
theorem dL_told_185 : decode cL_told 185 = .ok (.iconst 1, 1) := by decide +kernel
theorem dL_told_186 : decode cL_told 186 = .ok (.iadd, 1) := by decide +kernel
theorem dL_told_187 : decode cL_told 187 = .ok (.iaload, 1) := by decide +kernel
theorem dL_told_188 : decode cL_told 188 = .ok (.iadd, 1) := by decide +kernel
theorem dL_told_189 : decode cL_told 189 = .ok (.istore 7, 2) := by decide +kernel
theorem dL_told_191 : decode cL_told 191 = .ok (.aload_n 2, 1) := by decide +kernel
theorem dL_told_192 : decode cL_told 192 = .ok (.iload 10, 2) := by decide +kernel
theorem dL_told_194 : decode cL_told 194 = .ok (.iconst 4, 1) := by decide +kernel
theorem dL_told_195 : decode cL_told 195 = .ok (.iadd, 1) := by decide +kernel
theorem dL_told_196 : decode cL_told 196 = .ok (.iaload, 1) := by decide +kernel
theorem dL_told_197 : decode cL_told 197 = .ok (.ifCond .ge 6, 3) := by decide +kernel
theorem dL_told_200 : decode cL_told 200 = .ok (.iinc 8 1, 3) := by decide +kernel
theorem dL_told_203 : decode cL_told 203 = .ok (.iinc 9 1, 3) := by decide +kernel
theorem dL_told_206 : decode cL_told 206 = .ok (.goto (-194), 3) := by decide +kernel
theorem dL_told_209 : decode cL_told 209 = .ok (.iconst 0, 1) := by decide +kernel
theorem dL_told_210 : decode cL_told 210 = .ok (.istore 9, 2) := by decide +kernel
theorem dL_told_212 : decode cL_told 212 = .ok (.iload 9, 2) := by decide +kernel
theorem dL_told_214 : decode cL_told 214 = .ok (.aload_n 1, 1) := by decide +kernel
theorem dL_told_215 : decode cL_told 215 = .ok (.iconst 1, 1) := by decide +kernel
theorem dL_told_216 : decode cL_told 216 = .ok (.iaload, 1) := by decide +kernel
theorem dL_told_217 : decode cL_told 217 = .ok (.if_icmp .ge 47, 3) := by decide +kernel
theorem dL_told_220 : decode cL_told 220 = .ok (.iconst 0, 1) := by decide +kernel
theorem dL_told_221 : decode cL_told 221 = .ok (.istore 10, 2) := by decide +kernel
theorem dL_told_223 : decode cL_told 223 = .ok (.iload 10, 2) := by decide +kernel
theorem dL_told_225 : decode cL_told 225 = .ok (.iconst 3, 1) := by decide +kernel
theorem dL_told_226 : decode cL_told 226 = .ok (.if_icmp .ge 32, 3) := by decide +kernel
theorem dL_told_229 : decode cL_told 229 = .ok (.aload_n 0, 1) := by decide +kernel
theorem dL_told_230 : decode cL_told 230 = .ok (.iload 9, 2) := by decide +kernel
theorem dL_told_232 : decode cL_told 232 = .ok (.iload 10, 2) := by decide +kernel
theorem dL_told_234 : decode cL_told 234 = .ok (.invokevirtual 71, 3) := by decide +kernel
theorem dL_told_237 : decode cL_told 237 = .ok (.aload 4, 2) := by decide +kernel
theorem dL_told_239 : decode cL_told 239 = .ok (.iconst 3, 1) := by decide +kernel
theorem dL_told_240 : decode cL_told 240 = .ok (.iload 9, 2) := by decide +kernel
theorem dL_told_242 : decode cL_told 242 = .ok (.imul, 1) := by decide +kernel
theorem dL_told_243 : decode cL_told 243 = .ok (.iload 10, 2) := by decide +kernel
theorem dL_told_245 : decode cL_told 245 = .ok (.iadd, 1) := by decide +kernel
theorem dL_told_246 : decode cL_told 246 = .ok (.iaload, 1) := by decide +kernel
theorem dL_told_247 : decode cL_told 247 = .ok (.if_icmp .eq 5, 3) := by decide +kernel
theorem dL_told_250 : decode cL_told 250 = .ok (.iconst 0, 1) := by decide +kernel
theorem dL_told_251 : decode cL_told 251 = .ok (.ireturn, 1) := by decide +kernel
theorem dL_told_252 : decode cL_told 252 = .ok (.iinc 10 1, 3) := by decide +kernel
theorem dL_told_255 : decode cL_told 255 = .ok (.goto (-32), 3) := by decide +kernel
theorem dL_told_258 : decode cL_told 258 = .ok (.iinc 9 1, 3) := by decide +kernel
theorem dL_told_261 : decode cL_told 261 = .ok (.goto (-49), 3) := by decide +kernel
theorem dL_told_264 : decode cL_told 264 = .ok (.iconst 0, 1) := by decide +kernel
theorem dL_told_265 : decode cL_told 265 = .ok (.istore 9, 2) := by decide +kernel
theorem dL_told_267 : decode cL_told 267 = .ok (.iload 9, 2) := by decide +kernel
theorem dL_told_269 : decode cL_told 269 = .ok (.iconst 2, 1) := by decide +kernel
theorem dL_told_270 : decode cL_told 270 = .ok (.if_icmp .ge 66, 3) := by decide +kernel
theorem dL_told_273 : decode cL_told 273 = .ok (.iconst 0, 1) := by decide +kernel
theorem dL_told_274 : decode cL_told 274 = .ok (.istore 10, 2) := by decide +kernel
theorem dL_told_276 : decode cL_told 276 = .ok (.iload 10, 2) := by decide +kernel
theorem dL_told_278 : decode cL_told 278 = .ok (.iconst 4, 1) := by decide +kernel
theorem dL_told_279 : decode cL_told 279 = .ok (.if_icmp .ge 32, 3) := by decide +kernel
theorem dL_told_282 : decode cL_told 282 = .ok (.aload_n 0, 1) := by decide +kernel
theorem dL_told_283 : decode cL_told 283 = .ok (.iload 9, 2) := by decide +kernel
theorem dL_told_285 : decode cL_told 285 = .ok (.iload 10, 2) := by decide +kernel
theorem dL_told_287 : decode cL_told 287 = .ok (.invokevirtual 74, 3) := by decide +kernel
theorem dL_told_290 : decode cL_told 290 = .ok (.aload 5, 2) := by decide +kernel
theorem dL_told_292 : decode cL_told 292 = .ok (.iconst 4, 1) := by decide +kernel
theorem dL_told_293 : decode cL_told 293 = .ok (.iload 9, 2) := by decide +kernel
theorem dL_told_295 : decode cL_told 295 = .ok (.imul, 1) := by decide +kernel
theorem dL_told_296 : decode cL_told 296 = .ok (.iload 10, 2) := by decide +kernel
theorem dL_told_298 : decode cL_told 298 = .ok (.iadd, 1) := by decide +kernel
theorem dL_told_299 : decode cL_told 299 = .ok (.iaload, 1) := by decide +kernel
theorem dL_told_300 : decode cL_told 300 = .ok (.if_icmp .eq 5, 3) := by decide +kernel
theorem dL_told_303 : decode cL_told 303 = .ok (.iconst 0, 1) := by decide +kernel
theorem dL_told_304 : decode cL_told 304 = .ok (.ireturn, 1) := by decide +kernel
theorem dL_told_305 : decode cL_told 305 = .ok (.iinc 10 1, 3) := by decide +kernel
theorem dL_told_308 : decode cL_told 308 = .ok (.goto (-32), 3) := by decide +kernel
theorem dL_told_311 : decode cL_told 311 = .ok (.aload_n 0, 1) := by decide +kernel
theorem dL_told_312 : decode cL_told 312 = .ok (.iload 9, 2) := by decide +kernel
theorem dL_told_314 : decode cL_told 314 = .ok (.iconst 4, 1) := by decide +kernel
theorem dL_told_315 : decode cL_told 315 = .ok (.invokevirtual 74, 3) := by decide +kernel
theorem dL_told_318 : decode cL_told 318 = .ok (.iload 9, 2) := by decide +kernel
theorem dL_told_320 : decode cL_told 320 = .ok (.aload 5, 2) := by decide +kernel
theorem dL_told_322 : decode cL_told 322 = .ok (.invokestatic 14, 3) := by decide +kernel
theorem dL_told_325 : decode cL_told 325 = .ok (.if_icmp .eq 5, 3) := by decide +kernel
theorem dL_told_328 : decode cL_told 328 = .ok (.iconst 0, 1) := by decide +kernel
theorem dL_told_329 : decode cL_told 329 = .ok (.ireturn, 1) := by decide +kernel
theorem dL_told_330 : decode cL_told 330 = .ok (.iinc 9 1, 3) := by decide +kernel
theorem dL_told_333 : decode cL_told 333 = .ok (.goto (-66), 3) := by decide +kernel
theorem dL_told_336 : decode cL_told 336 = .ok (.iconst 0, 1) := by decide +kernel
theorem dL_told_337 : decode cL_told 337 = .ok (.istore 9, 2) := by decide +kernel
theorem dL_told_339 : decode cL_told 339 = .ok (.iload 9, 2) := by decide +kernel
theorem dL_told_341 : decode cL_told 341 = .ok (.iconst 3, 1) := by decide +kernel
theorem dL_told_342 : decode cL_told 342 = .ok (.if_icmp .ge 141, 3) := by decide +kernel
theorem dL_told_345 : decode cL_told 345 = .ok (.iconst 0, 1) := by decide +kernel
theorem dL_told_346 : decode cL_told 346 = .ok (.istore 10, 2) := by decide +kernel
theorem dL_told_348 : decode cL_told 348 = .ok (.iconst 0, 1) := by decide +kernel
theorem dL_told_349 : decode cL_told 349 = .ok (.istore 11, 2) := by decide +kernel
theorem dL_told_351 : decode cL_told 351 = .ok (.iconst 0, 1) := by decide +kernel
theorem dL_told_352 : decode cL_told 352 = .ok (.istore 12, 2) := by decide +kernel
theorem dL_told_354 : decode cL_told 354 = .ok (.iload 12, 2) := by decide +kernel
theorem dL_told_356 : decode cL_told 356 = .ok (.aload_n 1, 1) := by decide +kernel
theorem dL_told_357 : decode cL_told 357 = .ok (.iconst 0, 1) := by decide +kernel
theorem dL_told_358 : decode cL_told 358 = .ok (.iaload, 1) := by decide +kernel
theorem dL_told_359 : decode cL_told 359 = .ok (.if_icmp .ge 38, 3) := by decide +kernel
theorem dL_told_362 : decode cL_told 362 = .ok (.aload_n 2, 1) := by decide +kernel
theorem dL_told_363 : decode cL_told 363 = .ok (.bipush 6, 2) := by decide +kernel
theorem dL_told_365 : decode cL_told 365 = .ok (.iload 12, 2) := by decide +kernel
theorem dL_told_367 : decode cL_told 367 = .ok (.imul, 1) := by decide +kernel
theorem dL_told_368 : decode cL_told 368 = .ok (.iaload, 1) := by decide +kernel
theorem dL_told_369 : decode cL_told 369 = .ok (.iload 9, 2) := by decide +kernel
theorem dL_told_371 : decode cL_told 371 = .ok (.if_icmp .ne 20, 3) := by decide +kernel
theorem dL_told_374 : decode cL_told 374 = .ok (.iinc 10 1, 3) := by decide +kernel
theorem dL_told_377 : decode cL_told 377 = .ok (.iload 11, 2) := by decide +kernel
theorem dL_told_379 : decode cL_told 379 = .ok (.aload_n 2, 1) := by decide +kernel
theorem dL_told_380 : decode cL_told 380 = .ok (.bipush 6, 2) := by decide +kernel
theorem dL_told_382 : decode cL_told 382 = .ok (.iload 12, 2) := by decide +kernel
theorem dL_told_384 : decode cL_told 384 = .ok (.imul, 1) := by decide +kernel
theorem dL_told_385 : decode cL_told 385 = .ok (.iconst 4, 1) := by decide +kernel
theorem dL_told_386 : decode cL_told 386 = .ok (.iadd, 1) := by decide +kernel
theorem dL_told_387 : decode cL_told 387 = .ok (.iaload, 1) := by decide +kernel
theorem dL_told_388 : decode cL_told 388 = .ok (.iadd, 1) := by decide +kernel
theorem dL_told_389 : decode cL_told 389 = .ok (.istore 11, 2) := by decide +kernel
theorem dL_told_391 : decode cL_told 391 = .ok (.iinc 12 1, 3) := by decide +kernel
theorem dL_told_394 : decode cL_told 394 = .ok (.goto (-40), 3) := by decide +kernel
theorem dL_told_397 : decode cL_told 397 = .ok (.aload_n 0, 1) := by decide +kernel
theorem dL_told_398 : decode cL_told 398 = .ok (.iload 9, 2) := by decide +kernel
theorem dL_told_400 : decode cL_told 400 = .ok (.iconst 0, 1) := by decide +kernel
theorem dL_told_401 : decode cL_told 401 = .ok (.invokevirtual 77, 3) := by decide +kernel
theorem dL_told_404 : decode cL_told 404 = .ok (.iload 10, 2) := by decide +kernel
theorem dL_told_406 : decode cL_told 406 = .ok (.if_icmp .ne 69, 3) := by decide +kernel
theorem dL_told_409 : decode cL_told 409 = .ok (.aload_n 0, 1) := by decide +kernel
theorem dL_told_410 : decode cL_told 410 = .ok (.iload 9, 2) := by decide +kernel
theorem dL_told_412 : decode cL_told 412 = .ok (.iconst 1, 1) := by decide +kernel
theorem dL_told_413 : decode cL_told 413 = .ok (.invokevirtual 77, 3) := by decide +kernel
theorem dL_told_416 : decode cL_told 416 = .ok (.iload 9, 2) := by decide +kernel
theorem dL_told_418 : decode cL_told 418 = .ok (.iconst 0, 1) := by decide +kernel
theorem dL_told_419 : decode cL_told 419 = .ok (.aload_n 1, 1) := by decide +kernel
theorem dL_told_420 : decode cL_told 420 = .ok (.aload_n 2, 1) := by decide +kernel
theorem dL_told_421 : decode cL_told 421 = .ok (.invokestatic 18, 3) := by decide +kernel
theorem dL_told_424 : decode cL_told 424 = .ok (.if_icmp .ne 51, 3) := by decide +kernel
theorem dL_told_427 : decode cL_told 427 = .ok (.aload_n 0, 1) := by decide +kernel
theorem dL_told_428 : decode cL_told 428 = .ok (.iload 9, 2) := by decide +kernel
theorem dL_told_430 : decode cL_told 430 = .ok (.iconst 2, 1) := by decide +kernel
theorem dL_told_431 : decode cL_told 431 = .ok (.invokevirtual 77, 3) := by decide +kernel
theorem dL_told_434 : decode cL_told 434 = .ok (.iload 11, 2) := by decide +kernel
theorem dL_told_436 : decode cL_told 436 = .ok (.if_icmp .ne 39, 3) := by decide +kernel
theorem dL_told_439 : decode cL_told 439 = .ok (.aload_n 0, 1) := by decide +kernel
theorem dL_told_440 : decode cL_told 440 = .ok (.iload 9, 2) := by decide +kernel
theorem dL_told_442 : decode cL_told 442 = .ok (.iconst 3, 1) := by decide +kernel
theorem dL_told_443 : decode cL_told 443 = .ok (.invokevirtual 77, 3) := by decide +kernel
theorem dL_told_446 : decode cL_told 446 = .ok (.aload_n 1, 1) := by decide +kernel
theorem dL_told_447 : decode cL_told 447 = .ok (.bipush 16, 2) := by decide +kernel
theorem dL_told_449 : decode cL_told 449 = .ok (.iload 9, 2) := by decide +kernel
theorem dL_told_451 : decode cL_told 451 = .ok (.iadd, 1) := by decide +kernel
theorem dL_told_452 : decode cL_told 452 = .ok (.iaload, 1) := by decide +kernel
theorem dL_told_453 : decode cL_told 453 = .ok (.if_icmp .ne 22, 3) := by decide +kernel
theorem dL_told_456 : decode cL_told 456 = .ok (.aload_n 0, 1) := by decide +kernel
theorem dL_told_457 : decode cL_told 457 = .ok (.iload 9, 2) := by decide +kernel
theorem dL_told_459 : decode cL_told 459 = .ok (.iconst 4, 1) := by decide +kernel
theorem dL_told_460 : decode cL_told 460 = .ok (.invokevirtual 77, 3) := by decide +kernel
theorem dL_told_463 : decode cL_told 463 = .ok (.aload_n 1, 1) := by decide +kernel
theorem dL_told_464 : decode cL_told 464 = .ok (.bipush 19, 2) := by decide +kernel
theorem dL_told_466 : decode cL_told 466 = .ok (.iaload, 1) := by decide +kernel
theorem dL_told_467 : decode cL_told 467 = .ok (.iload 9, 2) := by decide +kernel
theorem dL_told_469 : decode cL_told 469 = .ok (.ishr, 1) := by decide +kernel
theorem dL_told_470 : decode cL_told 470 = .ok (.iconst 1, 1) := by decide +kernel
theorem dL_told_471 : decode cL_told 471 = .ok (.iand, 1) := by decide +kernel
theorem dL_told_472 : decode cL_told 472 = .ok (.if_icmp .eq 5, 3) := by decide +kernel
theorem dL_told_475 : decode cL_told 475 = .ok (.iconst 0, 1) := by decide +kernel
theorem dL_told_476 : decode cL_told 476 = .ok (.ireturn, 1) := by decide +kernel
theorem dL_told_477 : decode cL_told 477 = .ok (.iinc 9 1, 3) := by decide +kernel
theorem dL_told_480 : decode cL_told 480 = .ok (.goto (-141), 3) := by decide +kernel
theorem dL_told_483 : decode cL_told 483 = .ok (.iconst 0, 1) := by decide +kernel
theorem dL_told_484 : decode cL_told 484 = .ok (.istore 9, 2) := by decide +kernel
theorem dL_told_486 : decode cL_told 486 = .ok (.iload 9, 2) := by decide +kernel
theorem dL_told_488 : decode cL_told 488 = .ok (.iconst 5, 1) := by decide +kernel
theorem dL_told_489 : decode cL_told 489 = .ok (.if_icmp .ge 27, 3) := by decide +kernel
theorem dL_told_492 : decode cL_told 492 = .ok (.aload_n 0, 1) := by decide +kernel
theorem dL_told_493 : decode cL_told 493 = .ok (.iload 9, 2) := by decide +kernel
theorem dL_told_495 : decode cL_told 495 = .ok (.invokevirtual 80, 3) := by decide +kernel
theorem dL_told_498 : decode cL_told 498 = .ok (.aload_n 1, 1) := by decide +kernel
theorem dL_told_499 : decode cL_told 499 = .ok (.bipush 8, 2) := by decide +kernel
theorem dL_told_501 : decode cL_told 501 = .ok (.iload 9, 2) := by decide +kernel
theorem dL_told_503 : decode cL_told 503 = .ok (.iadd, 1) := by decide +kernel
theorem dL_told_504 : decode cL_told 504 = .ok (.iaload, 1) := by decide +kernel
theorem dL_told_505 : decode cL_told 505 = .ok (.if_icmp .eq 5, 3) := by decide +kernel
theorem dL_told_508 : decode cL_told 508 = .ok (.iconst 0, 1) := by decide +kernel
theorem dL_told_509 : decode cL_told 509 = .ok (.ireturn, 1) := by decide +kernel
theorem dL_told_510 : decode cL_told 510 = .ok (.iinc 9 1, 3) := by decide +kernel
theorem dL_told_513 : decode cL_told 513 = .ok (.goto (-27), 3) := by decide +kernel
theorem dL_told_516 : decode cL_told 516 = .ok (.iconst 0, 1) := by decide +kernel
theorem dL_told_517 : decode cL_told 517 = .ok (.istore 9, 2) := by decide +kernel
theorem dL_told_519 : decode cL_told 519 = .ok (.iload 9, 2) := by decide +kernel
theorem dL_told_521 : decode cL_told 521 = .ok (.iconst 4, 1) := by decide +kernel
theorem dL_told_522 : decode cL_told 522 = .ok (.if_icmp .ge 26, 3) := by decide +kernel
theorem dL_told_525 : decode cL_told 525 = .ok (.aload_n 0, 1) := by decide +kernel
theorem dL_told_526 : decode cL_told 526 = .ok (.iload 9, 2) := by decide +kernel
theorem dL_told_528 : decode cL_told 528 = .ok (.invokevirtual 83, 3) := by decide +kernel
theorem dL_told_531 : decode cL_told 531 = .ok (.aload_n 1, 1) := by decide +kernel
theorem dL_told_532 : decode cL_told 532 = .ok (.iconst 4, 1) := by decide +kernel
theorem dL_told_533 : decode cL_told 533 = .ok (.iload 9, 2) := by decide +kernel
theorem dL_told_535 : decode cL_told 535 = .ok (.iadd, 1) := by decide +kernel
theorem dL_told_536 : decode cL_told 536 = .ok (.iaload, 1) := by decide +kernel
theorem dL_told_537 : decode cL_told 537 = .ok (.if_icmp .eq 5, 3) := by decide +kernel
theorem dL_told_540 : decode cL_told 540 = .ok (.iconst 0, 1) := by decide +kernel
theorem dL_told_541 : decode cL_told 541 = .ok (.ireturn, 1) := by decide +kernel
theorem dL_told_542 : decode cL_told 542 = .ok (.iinc 9 1, 3) := by decide +kernel
theorem dL_told_545 : decode cL_told 545 = .ok (.goto (-26), 3) := by decide +kernel
theorem dL_told_548 : decode cL_told 548 = .ok (.aload 5, 2) := by decide +kernel
theorem dL_told_550 : decode cL_told 550 = .ok (.iconst 3, 1) := by decide +kernel
theorem dL_told_551 : decode cL_told 551 = .ok (.iaload, 1) := by decide +kernel
theorem dL_told_552 : decode cL_told 552 = .ok (.aload 5, 2) := by decide +kernel
theorem dL_told_554 : decode cL_told 554 = .ok (.bipush 7, 2) := by decide +kernel
theorem dL_told_556 : decode cL_told 556 = .ok (.iaload, 1) := by decide +kernel
theorem dL_told_557 : decode cL_told 557 = .ok (.iadd, 1) := by decide +kernel
theorem dL_told_558 : decode cL_told 558 = .ok (.istore 9, 2) := by decide +kernel
theorem dL_told_560 : decode cL_told 560 = .ok (.aload_n 0, 1) := by decide +kernel
theorem dL_told_561 : decode cL_told 561 = .ok (.iconst 5, 1) := by decide +kernel
theorem dL_told_562 : decode cL_told 562 = .ok (.invokevirtual 80, 3) := by decide +kernel
theorem dL_told_565 : decode cL_told 565 = .ok (.iload 9, 2) := by decide +kernel
theorem dL_told_567 : decode cL_told 567 = .ok (.if_icmp .ne 143, 3) := by decide +kernel
theorem dL_told_570 : decode cL_told 570 = .ok (.aload_n 0, 1) := by decide +kernel
theorem dL_told_571 : decode cL_told 571 = .ok (.bipush 6, 2) := by decide +kernel
theorem dL_told_573 : decode cL_told 573 = .ok (.invokevirtual 80, 3) := by decide +kernel
theorem dL_told_576 : decode cL_told 576 = .ok (.aload_n 1, 1) := by decide +kernel
theorem dL_told_577 : decode cL_told 577 = .ok (.bipush 13, 2) := by decide +kernel
theorem dL_told_579 : decode cL_told 579 = .ok (.iaload, 1) := by decide +kernel
theorem dL_told_580 : decode cL_told 580 = .ok (.if_icmp .ne 130, 3) := by decide +kernel
theorem dL_told_583 : decode cL_told 583 = .ok (.aload_n 0, 1) := by decide +kernel
theorem dL_told_584 : decode cL_told 584 = .ok (.bipush 7, 2) := by decide +kernel
theorem dL_told_586 : decode cL_told 586 = .ok (.invokevirtual 80, 3) := by decide +kernel
theorem dL_told_589 : decode cL_told 589 = .ok (.aload_n 1, 1) := by decide +kernel
theorem dL_told_590 : decode cL_told 590 = .ok (.bipush 14, 2) := by decide +kernel
theorem dL_told_592 : decode cL_told 592 = .ok (.iaload, 1) := by decide +kernel
theorem dL_told_593 : decode cL_told 593 = .ok (.if_icmp .ne 117, 3) := by decide +kernel
theorem dL_told_596 : decode cL_told 596 = .ok (.aload_n 1, 1) := by decide +kernel
theorem dL_told_597 : decode cL_told 597 = .ok (.bipush 8, 2) := by decide +kernel
theorem dL_told_599 : decode cL_told 599 = .ok (.iaload, 1) := by decide +kernel
theorem dL_told_600 : decode cL_told 600 = .ok (.aload_n 1, 1) := by decide +kernel
theorem dL_told_601 : decode cL_told 601 = .ok (.bipush 9, 2) := by decide +kernel
theorem dL_told_603 : decode cL_told 603 = .ok (.iaload, 1) := by decide +kernel
theorem dL_told_604 : decode cL_told 604 = .ok (.aload_n 1, 1) := by decide +kernel
theorem dL_told_605 : decode cL_told 605 = .ok (.bipush 10, 2) := by decide +kernel
theorem dL_told_607 : decode cL_told 607 = .ok (.iaload, 1) := by decide +kernel
theorem dL_told_608 : decode cL_told 608 = .ok (.iadd, 1) := by decide +kernel
theorem dL_told_609 : decode cL_told 609 = .ok (.aload_n 1, 1) := by decide +kernel
theorem dL_told_610 : decode cL_told 610 = .ok (.bipush 11, 2) := by decide +kernel
theorem dL_told_612 : decode cL_told 612 = .ok (.iaload, 1) := by decide +kernel
theorem dL_told_613 : decode cL_told 613 = .ok (.iadd, 1) := by decide +kernel
theorem dL_told_614 : decode cL_told 614 = .ok (.aload_n 1, 1) := by decide +kernel
theorem dL_told_615 : decode cL_told 615 = .ok (.bipush 12, 2) := by decide +kernel
theorem dL_told_617 : decode cL_told 617 = .ok (.iaload, 1) := by decide +kernel
theorem dL_told_618 : decode cL_told 618 = .ok (.iadd, 1) := by decide +kernel
theorem dL_told_619 : decode cL_told 619 = .ok (.iload 9, 2) := by decide +kernel
theorem dL_told_621 : decode cL_told 621 = .ok (.iadd, 1) := by decide +kernel
theorem dL_told_622 : decode cL_told 622 = .ok (.if_icmp .ne 88, 3) := by decide +kernel
theorem dL_told_625 : decode cL_told 625 = .ok (.aload_n 0, 1) := by decide +kernel
theorem dL_told_626 : decode cL_told 626 = .ok (.iconst 0, 1) := by decide +kernel
theorem dL_told_627 : decode cL_told 627 = .ok (.invokevirtual 86, 3) := by decide +kernel
theorem dL_told_630 : decode cL_told 630 = .ok (.aload_n 1, 1) := by decide +kernel
theorem dL_told_631 : decode cL_told 631 = .ok (.iconst 0, 1) := by decide +kernel
theorem dL_told_632 : decode cL_told 632 = .ok (.iaload, 1) := by decide +kernel
theorem dL_told_633 : decode cL_told 633 = .ok (.if_icmp .ne 77, 3) := by decide +kernel
theorem dL_told_636 : decode cL_told 636 = .ok (.aload_n 0, 1) := by decide +kernel
theorem dL_told_637 : decode cL_told 637 = .ok (.iconst 1, 1) := by decide +kernel
theorem dL_told_638 : decode cL_told 638 = .ok (.invokevirtual 86, 3) := by decide +kernel
theorem dL_told_641 : decode cL_told 641 = .ok (.aload_n 1, 1) := by decide +kernel
theorem dL_told_642 : decode cL_told 642 = .ok (.iconst 1, 1) := by decide +kernel
theorem dL_told_643 : decode cL_told 643 = .ok (.iaload, 1) := by decide +kernel
theorem dL_told_644 : decode cL_told 644 = .ok (.if_icmp .ne 66, 3) := by decide +kernel
theorem dL_told_647 : decode cL_told 647 = .ok (.aload_n 0, 1) := by decide +kernel
theorem dL_told_648 : decode cL_told 648 = .ok (.iconst 2, 1) := by decide +kernel
theorem dL_told_649 : decode cL_told 649 = .ok (.invokevirtual 86, 3) := by decide +kernel
theorem dL_told_652 : decode cL_told 652 = .ok (.aload_n 1, 1) := by decide +kernel
theorem dL_told_653 : decode cL_told 653 = .ok (.iconst 2, 1) := by decide +kernel
theorem dL_told_654 : decode cL_told 654 = .ok (.iaload, 1) := by decide +kernel
theorem dL_told_655 : decode cL_told 655 = .ok (.if_icmp .ne 55, 3) := by decide +kernel
theorem dL_told_658 : decode cL_told 658 = .ok (.aload_n 0, 1) := by decide +kernel
theorem dL_told_659 : decode cL_told 659 = .ok (.iconst 4, 1) := by decide +kernel
theorem dL_told_660 : decode cL_told 660 = .ok (.invokevirtual 86, 3) := by decide +kernel
theorem dL_told_663 : decode cL_told 663 = .ok (.aload_n 1, 1) := by decide +kernel
theorem dL_told_664 : decode cL_told 664 = .ok (.iconst 3, 1) := by decide +kernel
theorem dL_told_665 : decode cL_told 665 = .ok (.iaload, 1) := by decide +kernel
theorem dL_told_666 : decode cL_told 666 = .ok (.if_icmp .ne 44, 3) := by decide +kernel
theorem dL_told_669 : decode cL_told 669 = .ok (.aload_n 0, 1) := by decide +kernel
theorem dL_told_670 : decode cL_told 670 = .ok (.bipush 7, 2) := by decide +kernel
theorem dL_told_672 : decode cL_told 672 = .ok (.invokevirtual 86, 3) := by decide +kernel
theorem dL_told_675 : decode cL_told 675 = .ok (.iload 8, 2) := by decide +kernel
theorem dL_told_677 : decode cL_told 677 = .ok (.if_icmp .ne 33, 3) := by decide +kernel
theorem dL_told_680 : decode cL_told 680 = .ok (.aload_n 0, 1) := by decide +kernel
theorem dL_told_681 : decode cL_told 681 = .ok (.invokevirtual 89, 3) := by decide +kernel
theorem dL_told_684 : decode cL_told 684 = .ok (.iload 7, 2) := by decide +kernel
theorem dL_told_686 : decode cL_told 686 = .ok (.ifCond .ne 7, 3) := by decide +kernel
theorem dL_told_689 : decode cL_told 689 = .ok (.dconst 1, 1) := by decide +kernel
theorem dL_told_690 : decode cL_told 690 = .ok (.goto 12, 3) := by decide +kernel
theorem dL_told_693 : decode cL_told 693 = .ok (.iload 6, 2) := by decide +kernel
theorem dL_told_695 : decode cL_told 695 = .ok (.i2d, 1) := by decide +kernel
theorem dL_told_696 : decode cL_told 696 = .ok (.dconst 1, 1) := by decide +kernel
theorem dL_told_697 : decode cL_told 697 = .ok (.dmul, 1) := by decide +kernel
theorem dL_told_698 : decode cL_told 698 = .ok (.iload 7, 2) := by decide +kernel
theorem dL_told_700 : decode cL_told 700 = .ok (.i2d, 1) := by decide +kernel
theorem dL_told_701 : decode cL_told 701 = .ok (.ddiv, 1) := by decide +kernel
theorem dL_told_702 : decode cL_told 702 = .ok (.dcmp .l, 1) := by decide +kernel
theorem dL_told_703 : decode cL_told 703 = .ok (.ifCond .ne 7, 3) := by decide +kernel
theorem dL_told_706 : decode cL_told 706 = .ok (.iconst 1, 1) := by decide +kernel
theorem dL_told_707 : decode cL_told 707 = .ok (.goto 4, 3) := by decide +kernel
theorem dL_told_710 : decode cL_told 710 = .ok (.iconst 0, 1) := by decide +kernel
theorem dL_told_711 : decode cL_told 711 = .ok (.ireturn, 1) := by decide +kernel
theorem dL_law_0 : decode cL_law 0 = .ok (.new 34, 3) := by decide +kernel
theorem dL_law_3 : decode cL_law 3 = .ok (.dup, 1) := by decide +kernel
theorem dL_law_4 : decode cL_law 4 = .ok (.invokespecial 93, 3) := by decide +kernel
theorem dL_law_7 : decode cL_law 7 = .ok (.astore_n 1, 1) := by decide +kernel
theorem dL_law_8 : decode cL_law 8 = .ok (.bipush 20, 2) := by decide +kernel
theorem dL_law_10 : decode cL_law 10 = .ok (.newarray .int, 2) := by decide +kernel
theorem dL_law_12 : decode cL_law 12 = .ok (.astore_n 2, 1) := by decide +kernel
theorem dL_law_13 : decode cL_law 13 = .ok (.bipush 48, 2) := by decide +kernel
theorem dL_law_15 : decode cL_law 15 = .ok (.newarray .int, 2) := by decide +kernel
theorem dL_law_17 : decode cL_law 17 = .ok (.astore_n 3, 1) := by decide +kernel
theorem dL_law_18 : decode cL_law 18 = .ok (.bipush 16, 2) := by decide +kernel
theorem dL_law_20 : decode cL_law 20 = .ok (.newarray .int, 2) := by decide +kernel
theorem dL_law_22 : decode cL_law 22 = .ok (.astore 4, 2) := by decide +kernel
theorem dL_law_24 : decode cL_law 24 = .ok (.bipush 30, 2) := by decide +kernel
theorem dL_law_26 : decode cL_law 26 = .ok (.newarray .int, 2) := by decide +kernel
theorem dL_law_28 : decode cL_law 28 = .ok (.astore 5, 2) := by decide +kernel
theorem dL_law_30 : decode cL_law 30 = .ok (.bipush 8, 2) := by decide +kernel
theorem dL_law_32 : decode cL_law 32 = .ok (.newarray .int, 2) := by decide +kernel
theorem dL_law_34 : decode cL_law 34 = .ok (.astore 6, 2) := by decide +kernel
theorem dL_law_36 : decode cL_law 36 = .ok (.bipush 12, 2) := by decide +kernel
theorem dL_law_38 : decode cL_law 38 = .ok (.newarray .int, 2) := by decide +kernel
theorem dL_law_40 : decode cL_law 40 = .ok (.astore 7, 2) := by decide +kernel
theorem dL_law_42 : decode cL_law 42 = .ok (.aload_n 2, 1) := by decide +kernel
theorem dL_law_43 : decode cL_law 43 = .ok (.aload 6, 2) := by decide +kernel
theorem dL_law_45 : decode cL_law 45 = .ok (.aload 7, 2) := by decide +kernel
theorem dL_law_47 : decode cL_law 47 = .ok (.invokestatic 94, 3) := by decide +kernel
theorem dL_law_50 : decode cL_law 50 = .ok (.aload_n 1, 1) := by decide +kernel
theorem dL_law_51 : decode cL_law 51 = .ok (.aload_n 2, 1) := by decide +kernel
theorem dL_law_52 : decode cL_law 52 = .ok (.aload_n 3, 1) := by decide +kernel
theorem dL_law_53 : decode cL_law 53 = .ok (.aload 4, 2) := by decide +kernel
theorem dL_law_55 : decode cL_law 55 = .ok (.aload 5, 2) := by decide +kernel
theorem dL_law_57 : decode cL_law 57 = .ok (.aload 6, 2) := by decide +kernel
theorem dL_law_59 : decode cL_law 59 = .ok (.invokestatic 98, 3) := by decide +kernel
theorem dL_law_62 : decode cL_law 62 = .ok (.ifCond .ne 5, 3) := by decide +kernel
theorem dL_law_65 : decode cL_law 65 = .ok (.iconst 0, 1) := by decide +kernel
theorem dL_law_66 : decode cL_law 66 = .ok (.ireturn, 1) := by decide +kernel
theorem dL_law_67 : decode cL_law 67 = .ok (.iconst 0, 1) := by decide +kernel
theorem dL_law_68 : decode cL_law 68 = .ok (.istore 8, 2) := by decide +kernel
theorem dL_law_70 : decode cL_law 70 = .ok (.iload 8, 2) := by decide +kernel
theorem dL_law_72 : decode cL_law 72 = .ok (.bipush 30, 2) := by decide +kernel
theorem dL_law_74 : decode cL_law 74 = .ok (.if_icmp .ge 184, 3) := by decide +kernel
theorem dL_law_77 : decode cL_law 77 = .ok (.aload_n 0, 1) := by decide +kernel
theorem dL_law_78 : decode cL_law 78 = .ok (.iconst 2, 1) := by decide +kernel
theorem dL_law_79 : decode cL_law 79 = .ok (.iload 8, 2) := by decide +kernel
theorem dL_law_81 : decode cL_law 81 = .ok (.imul, 1) := by decide +kernel
theorem dL_law_82 : decode cL_law 82 = .ok (.invokestatic 102, 3) := by decide +kernel
theorem dL_law_85 : decode cL_law 85 = .ok (.istore 9, 2) := by decide +kernel
theorem dL_law_87 : decode cL_law 87 = .ok (.aload_n 0, 1) := by decide +kernel
theorem dL_law_88 : decode cL_law 88 = .ok (.iconst 2, 1) := by decide +kernel
theorem dL_law_89 : decode cL_law 89 = .ok (.iload 8, 2) := by decide +kernel
theorem dL_law_91 : decode cL_law 91 = .ok (.imul, 1) := by decide +kernel
theorem dL_law_92 : decode cL_law 92 = .ok (.iconst 1, 1) := by decide +kernel
theorem dL_law_93 : decode cL_law 93 = .ok (.iadd, 1) := by decide +kernel
theorem dL_law_94 : decode cL_law 94 = .ok (.invokestatic 102, 3) := by decide +kernel
theorem dL_law_97 : decode cL_law 97 = .ok (.istore 10, 2) := by decide +kernel
theorem dL_law_99 : decode cL_law 99 = .ok (.iload 8, 2) := by decide +kernel
theorem dL_law_101 : decode cL_law 101 = .ok (.iconst 3, 1) := by decide +kernel
theorem dL_law_102 : decode cL_law 102 = .ok (.if_icmp .ge 7, 3) := by decide +kernel
theorem dL_law_105 : decode cL_law 105 = .ok (.iconst 0, 1) := by decide +kernel
theorem dL_law_106 : decode cL_law 106 = .ok (.goto 13, 3) := by decide +kernel
theorem dL_law_109 : decode cL_law 109 = .ok (.iload 9, 2) := by decide +kernel
theorem dL_law_111 : decode cL_law 111 = .ok (.bipush 22, 2) := by decide +kernel
theorem dL_law_113 : decode cL_law 113 = .ok (.ishr, 1) := by decide +kernel
theorem dL_law_114 : decode cL_law 114 = .ok (.bipush 16, 2) := by decide +kernel
theorem dL_law_116 : decode cL_law 116 = .ok (.invokestatic 29, 3) := by decide +kernel
theorem dL_law_119 : decode cL_law 119 = .ok (.istore 11, 2) := by decide +kernel
theorem dL_law_121 : decode cL_law 121 = .ok (.iload 11, 2) := by decide +kernel
theorem dL_law_123 : decode cL_law 123 = .ok (.iconst 2, 1) := by decide +kernel
theorem dL_law_124 : decode cL_law 124 = .ok (.if_icmp .lt 9, 3) := by decide +kernel
theorem dL_law_127 : decode cL_law 127 = .ok (.aload_n 2, 1) := by decide +kernel
theorem dL_law_128 : decode cL_law 128 = .ok (.iconst 0, 1) := by decide +kernel
theorem dL_law_129 : decode cL_law 129 = .ok (.iaload, 1) := by decide +kernel
theorem dL_law_130 : decode cL_law 130 = .ok (.ifCond .ne 18, 3) := by decide +kernel
theorem dL_law_133 : decode cL_law 133 = .ok (.aload_n 1, 1) := by decide +kernel
theorem dL_law_134 : decode cL_law 134 = .ok (.iload 9, 2) := by decide +kernel
theorem dL_law_136 : decode cL_law 136 = .ok (.iload 10, 2) := by decide +kernel
theorem dL_law_138 : decode cL_law 138 = .ok (.aload_n 2, 1) := by decide +kernel
theorem dL_law_139 : decode cL_law 139 = .ok (.aload_n 3, 1) := by decide +kernel
theorem dL_law_140 : decode cL_law 140 = .ok (.aload 4, 2) := by decide +kernel
theorem dL_law_142 : decode cL_law 142 = .ok (.invokestatic 106, 3) := by decide +kernel
theorem dL_law_145 : decode cL_law 145 = .ok (.goto 83, 3) := by decide +kernel
theorem dL_law_148 : decode cL_law 148 = .ok (.iload 11, 2) := by decide +kernel
theorem dL_law_150 : decode cL_law 150 = .ok (.bipush 6, 2) := by decide +kernel
theorem dL_law_152 : decode cL_law 152 = .ok (.if_icmp .ge 18, 3) := by decide +kernel
theorem dL_law_155 : decode cL_law 155 = .ok (.aload_n 1, 1) := by decide +kernel
theorem dL_law_156 : decode cL_law 156 = .ok (.iload 9, 2) := by decide +kernel
theorem dL_law_158 : decode cL_law 158 = .ok (.iload 10, 2) := by decide +kernel
theorem dL_law_160 : decode cL_law 160 = .ok (.aload_n 2, 1) := by decide +kernel
theorem dL_law_161 : decode cL_law 161 = .ok (.aload_n 3, 1) := by decide +kernel
theorem dL_law_162 : decode cL_law 162 = .ok (.aload 6, 2) := by decide +kernel
theorem dL_law_164 : decode cL_law 164 = .ok (.invokestatic 109, 3) := by decide +kernel
theorem dL_law_167 : decode cL_law 167 = .ok (.goto 61, 3) := by decide +kernel
theorem dL_law_170 : decode cL_law 170 = .ok (.iload 11, 2) := by decide +kernel
theorem dL_law_172 : decode cL_law 172 = .ok (.bipush 9, 2) := by decide +kernel
theorem dL_law_174 : decode cL_law 174 = .ok (.if_icmp .ge 18, 3) := by decide +kernel
theorem dL_law_177 : decode cL_law 177 = .ok (.aload_n 1, 1) := by decide +kernel
theorem dL_law_178 : decode cL_law 178 = .ok (.iload 9, 2) := by decide +kernel
theorem dL_law_180 : decode cL_law 180 = .ok (.iload 10, 2) := by decide +kernel
theorem dL_law_182 : decode cL_law 182 = .ok (.aload_n 2, 1) := by decide +kernel
theorem dL_law_183 : decode cL_law 183 = .ok (.aload_n 3, 1) := by decide +kernel
theorem dL_law_184 : decode cL_law 184 = .ok (.aload 5, 2) := by decide +kernel
theorem dL_law_186 : decode cL_law 186 = .ok (.invokestatic 111, 3) := by decide +kernel
theorem dL_law_189 : decode cL_law 189 = .ok (.goto 39, 3) := by decide +kernel
theorem dL_law_192 : decode cL_law 192 = .ok (.iload 11, 2) := by decide +kernel
theorem dL_law_194 : decode cL_law 194 = .ok (.bipush 12, 2) := by decide +kernel
theorem dL_law_196 : decode cL_law 196 = .ok (.if_icmp .ge 18, 3) := by decide +kernel
theorem dL_law_199 : decode cL_law 199 = .ok (.aload_n 1, 1) := by decide +kernel
theorem dL_law_200 : decode cL_law 200 = .ok (.iload 9, 2) := by decide +kernel
theorem dL_law_202 : decode cL_law 202 = .ok (.iload 10, 2) := by decide +kernel
theorem dL_law_204 : decode cL_law 204 = .ok (.aload_n 2, 1) := by decide +kernel
theorem dL_law_205 : decode cL_law 205 = .ok (.aload_n 3, 1) := by decide +kernel
theorem dL_law_206 : decode cL_law 206 = .ok (.aload 5, 2) := by decide +kernel
theorem dL_law_208 : decode cL_law 208 = .ok (.invokestatic 113, 3) := by decide +kernel
theorem dL_law_211 : decode cL_law 211 = .ok (.goto 17, 3) := by decide +kernel
theorem dL_law_214 : decode cL_law 214 = .ok (.aload_n 1, 1) := by decide +kernel
theorem dL_law_215 : decode cL_law 215 = .ok (.iload 10, 2) := by decide +kernel
theorem dL_law_217 : decode cL_law 217 = .ok (.aload_n 2, 1) := by decide +kernel
theorem dL_law_218 : decode cL_law 218 = .ok (.aload_n 3, 1) := by decide +kernel
theorem dL_law_219 : decode cL_law 219 = .ok (.aload 4, 2) := by decide +kernel
theorem dL_law_221 : decode cL_law 221 = .ok (.aload 6, 2) := by decide +kernel
theorem dL_law_223 : decode cL_law 223 = .ok (.aload 7, 2) := by decide +kernel
theorem dL_law_225 : decode cL_law 225 = .ok (.invokestatic 115, 3) := by decide +kernel
theorem dL_law_228 : decode cL_law 228 = .ok (.istore 12, 2) := by decide +kernel
theorem dL_law_230 : decode cL_law 230 = .ok (.iload 12, 2) := by decide +kernel
theorem dL_law_232 : decode cL_law 232 = .ok (.ifCond .eq 18, 3) := by decide +kernel
theorem dL_law_235 : decode cL_law 235 = .ok (.aload_n 1, 1) := by decide +kernel
theorem dL_law_236 : decode cL_law 236 = .ok (.aload_n 2, 1) := by decide +kernel
theorem dL_law_237 : decode cL_law 237 = .ok (.aload_n 3, 1) := by decide +kernel
theorem dL_law_238 : decode cL_law 238 = .ok (.aload 4, 2) := by decide +kernel
theorem dL_law_240 : decode cL_law 240 = .ok (.aload 5, 2) := by decide +kernel
theorem dL_law_242 : decode cL_law 242 = .ok (.aload 6, 2) := by decide +kernel
theorem dL_law_244 : decode cL_law 244 = .ok (.invokestatic 98, 3) := by decide +kernel
theorem dL_law_247 : decode cL_law 247 = .ok (.ifCond .ne 5, 3) := by decide +kernel
theorem dL_law_250 : decode cL_law 250 = .ok (.iconst 0, 1) := by decide +kernel
theorem dL_law_251 : decode cL_law 251 = .ok (.ireturn, 1) := by decide +kernel
theorem dL_law_252 : decode cL_law 252 = .ok (.iinc 8 1, 3) := by decide +kernel
theorem dL_law_255 : decode cL_law 255 = .ok (.goto (-185), 3) := by decide +kernel
theorem dL_law_258 : decode cL_law 258 = .ok (.iconst 1, 1) := by decide +kernel
theorem dL_law_259 : decode cL_law 259 = .ok (.ireturn, 1) := by decide +kernel
