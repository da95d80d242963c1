theorem dX7_init_0 : decode cX7_init 0 = .ok (.aload_n 0, 1) := by decide +kernel
theorem dX7_init_1 : decode cX7_init 1 = .ok (.invokespecial 1, 3) := by decide +kernel
theorem dX7_init_4 : decode cX7_init 4 = .ok (.aload_n 0, 1) := by decide +kernel
theorem dX7_init_5 : decode cX7_init 5 = .ok (.sipush 198, 3) := by decide +kernel
theorem dX7_init_8 : decode cX7_init 8 = .ok (.newarray .int, 2) := by decide +kernel
theorem dX7_init_10 : decode cX7_init 10 = .ok (.putfield 7, 3) := by decide +kernel
theorem dX7_init_13 : decode cX7_init 13 = .ok (.aload_n 0, 1) := by decide +kernel
theorem dX7_init_14 : decode cX7_init 14 = .ok (.sipush 198, 3) := by decide +kernel
theorem dX7_init_17 : decode cX7_init 17 = .ok (.newarray .int, 2) := by decide +kernel
theorem dX7_init_19 : decode cX7_init 19 = .ok (.putfield 13, 3) := by decide +kernel
theorem dX7_init_22 : decode cX7_init 22 = .ok (.aload_n 0, 1) := by decide +kernel
theorem dX7_init_23 : decode cX7_init 23 = .ok (.sipush 1584, 3) := by decide +kernel
theorem dX7_init_26 : decode cX7_init 26 = .ok (.newarray .int, 2) := by decide +kernel
theorem dX7_init_28 : decode cX7_init 28 = .ok (.putfield 16, 3) := by decide +kernel
theorem dX7_init_31 : decode cX7_init 31 = .ok (.aload_n 0, 1) := by decide +kernel
theorem dX7_init_32 : decode cX7_init 32 = .ok (.sipush 396, 3) := by decide +kernel
theorem dX7_init_35 : decode cX7_init 35 = .ok (.newarray .int, 2) := by decide +kernel
theorem dX7_init_37 : decode cX7_init 37 = .ok (.putfield 19, 3) := by decide +kernel
theorem dX7_init_40 : decode cX7_init 40 = .ok (.aload_n 0, 1) := by decide +kernel
theorem dX7_init_41 : decode cX7_init 41 = .ok (.bipush 60, 2) := by decide +kernel
theorem dX7_init_43 : decode cX7_init 43 = .ok (.newarray .int, 2) := by decide +kernel
theorem dX7_init_45 : decode cX7_init 45 = .ok (.putfield 22, 3) := by decide +kernel
theorem dX7_init_48 : decode cX7_init 48 = .ok (.aload_n 0, 1) := by decide +kernel
theorem dX7_init_49 : decode cX7_init 49 = .ok (.bipush 10, 2) := by decide +kernel
theorem dX7_init_51 : decode cX7_init 51 = .ok (.newarray .int, 2) := by decide +kernel
theorem dX7_init_53 : decode cX7_init 53 = .ok (.putfield 25, 3) := by decide +kernel
theorem dX7_init_56 : decode cX7_init 56 = .ok (.aload_n 0, 1) := by decide +kernel
theorem dX7_init_57 : decode cX7_init 57 = .ok (.bipush 48, 2) := by decide +kernel
theorem dX7_init_59 : decode cX7_init 59 = .ok (.newarray .int, 2) := by decide +kernel
theorem dX7_init_61 : decode cX7_init 61 = .ok (.putfield 28, 3) := by decide +kernel
theorem dX7_init_64 : decode cX7_init 64 = .ok (.iconst 0, 1) := by decide +kernel
theorem dX7_init_65 : decode cX7_init 65 = .ok (.istore_n 1, 1) := by decide +kernel
theorem dX7_init_66 : decode cX7_init 66 = .ok (.iload_n 1, 1) := by decide +kernel
theorem dX7_init_67 : decode cX7_init 67 = .ok (.iconst 2, 1) := by decide +kernel
theorem dX7_init_68 : decode cX7_init 68 = .ok (.if_icmp .ge 39, 3) := by decide +kernel
theorem dX7_init_71 : decode cX7_init 71 = .ok (.aload_n 0, 1) := by decide +kernel
theorem dX7_init_72 : decode cX7_init 72 = .ok (.getfield 7, 3) := by decide +kernel
theorem dX7_init_75 : decode cX7_init 75 = .ok (.bipush 116, 2) := by decide +kernel
theorem dX7_init_77 : decode cX7_init 77 = .ok (.iconst 4, 1) := by decide +kernel
theorem dX7_init_78 : decode cX7_init 78 = .ok (.iload_n 1, 1) := by decide +kernel
theorem dX7_init_79 : decode cX7_init 79 = .ok (.imul, 1) := by decide +kernel
theorem dX7_init_80 : decode cX7_init 80 = .ok (.iadd, 1) := by decide +kernel
theorem dX7_init_81 : decode cX7_init 81 = .ok (.iconst 1, 1) := by decide +kernel
theorem dX7_init_82 : decode cX7_init 82 = .ok (.iadd, 1) := by decide +kernel
theorem dX7_init_83 : decode cX7_init 83 = .ok (.bipush 20, 2) := by decide +kernel
theorem dX7_init_85 : decode cX7_init 85 = .ok (.iastore, 1) := by decide +kernel
theorem dX7_init_86 : decode cX7_init 86 = .ok (.aload_n 0, 1) := by decide +kernel
theorem dX7_init_87 : decode cX7_init 87 = .ok (.getfield 7, 3) := by decide +kernel
theorem dX7_init_90 : decode cX7_init 90 = .ok (.bipush 116, 2) := by decide +kernel
theorem dX7_init_92 : decode cX7_init 92 = .ok (.iconst 4, 1) := by decide +kernel
theorem dX7_init_93 : decode cX7_init 93 = .ok (.iload_n 1, 1) := by decide +kernel
theorem dX7_init_94 : decode cX7_init 94 = .ok (.imul, 1) := by decide +kernel
theorem dX7_init_95 : decode cX7_init 95 = .ok (.iadd, 1) := by decide +kernel
theorem dX7_init_96 : decode cX7_init 96 = .ok (.iconst 2, 1) := by decide +kernel
theorem dX7_init_97 : decode cX7_init 97 = .ok (.iadd, 1) := by decide +kernel
theorem dX7_init_98 : decode cX7_init 98 = .ok (.bipush 90, 2) := by decide +kernel
theorem dX7_init_100 : decode cX7_init 100 = .ok (.iastore, 1) := by decide +kernel
theorem dX7_init_101 : decode cX7_init 101 = .ok (.iinc 1 1, 3) := by decide +kernel
theorem dX7_init_104 : decode cX7_init 104 = .ok (.goto (-38), 3) := by decide +kernel
theorem dX7_init_107 : decode cX7_init 107 = .ok (.aload_n 0, 1) := by decide +kernel
theorem dX7_init_108 : decode cX7_init 108 = .ok (.getfield 7, 3) := by decide +kernel
theorem dX7_init_111 : decode cX7_init 111 = .ok (.bipush 124, 2) := by decide +kernel
theorem dX7_init_113 : decode cX7_init 113 = .ok (.bipush 20, 2) := by decide +kernel
theorem dX7_init_115 : decode cX7_init 115 = .ok (.iastore, 1) := by decide +kernel
theorem dX7_init_116 : decode cX7_init 116 = .ok (.aload_n 0, 1) := by decide +kernel
theorem dX7_init_117 : decode cX7_init 117 = .ok (.getfield 7, 3) := by decide +kernel
theorem dX7_init_120 : decode cX7_init 120 = .ok (.sipush 175, 3) := by decide +kernel
theorem dX7_init_123 : decode cX7_init 123 = .ok (.iconst 1, 1) := by decide +kernel
theorem dX7_init_124 : decode cX7_init 124 = .ok (.iastore, 1) := by decide +kernel
theorem dX7_init_125 : decode cX7_init 125 = .ok (.aload_n 0, 1) := by decide +kernel
theorem dX7_init_126 : decode cX7_init 126 = .ok (.getfield 7, 3) := by decide +kernel
theorem dX7_init_129 : decode cX7_init 129 = .ok (.sipush 176, 3) := by decide +kernel
theorem dX7_init_132 : decode cX7_init 132 = .ok (.iconst 1, 1) := by decide +kernel
theorem dX7_init_133 : decode cX7_init 133 = .ok (.iastore, 1) := by decide +kernel
theorem dX7_init_134 : decode cX7_init 134 = .ok (.aload_n 0, 1) := by decide +kernel
theorem dX7_init_135 : decode cX7_init 135 = .ok (.getfield 7, 3) := by decide +kernel
theorem dX7_init_138 : decode cX7_init 138 = .ok (.sipush 177, 3) := by decide +kernel
theorem dX7_init_141 : decode cX7_init 141 = .ok (.iconst 5, 1) := by decide +kernel
theorem dX7_init_142 : decode cX7_init 142 = .ok (.iastore, 1) := by decide +kernel
theorem dX7_init_143 : decode cX7_init 143 = .ok (.aload_n 0, 1) := by decide +kernel
theorem dX7_init_144 : decode cX7_init 144 = .ok (.getfield 7, 3) := by decide +kernel
theorem dX7_init_147 : decode cX7_init 147 = .ok (.sipush 178, 3) := by decide +kernel
theorem dX7_init_150 : decode cX7_init 150 = .ok (.bipush 40, 2) := by decide +kernel
theorem dX7_init_152 : decode cX7_init 152 = .ok (.iastore, 1) := by decide +kernel
theorem dX7_init_153 : decode cX7_init 153 = .ok (.aload_n 0, 1) := by decide +kernel
theorem dX7_init_154 : decode cX7_init 154 = .ok (.getfield 7, 3) := by decide +kernel
theorem dX7_init_157 : decode cX7_init 157 = .ok (.sipush 179, 3) := by decide +kernel
theorem dX7_init_160 : decode cX7_init 160 = .ok (.bipush 50, 2) := by decide +kernel
theorem dX7_init_162 : decode cX7_init 162 = .ok (.iastore, 1) := by decide +kernel
theorem dX7_init_163 : decode cX7_init 163 = .ok (.aload_n 0, 1) := by decide +kernel
theorem dX7_init_164 : decode cX7_init 164 = .ok (.getfield 7, 3) := by decide +kernel
theorem dX7_init_167 : decode cX7_init 167 = .ok (.sipush 180, 3) := by decide +kernel
theorem dX7_init_170 : decode cX7_init 170 = .ok (.bipush 50, 2) := by decide +kernel
theorem dX7_init_172 : decode cX7_init 172 = .ok (.iastore, 1) := by decide +kernel
theorem dX7_init_173 : decode cX7_init 173 = .ok (.return_, 1) := by decide +kernel
theorem dX7_within_0 : decode cX7_within 0 = .ok (.iload_n 0, 1) := by decide +kernel
theorem dX7_within_1 : decode cX7_within 1 = .ok (.iload_n 1, 1) := by decide +kernel
theorem dX7_within_2 : decode cX7_within 2 = .ok (.if_icmp .lt 12, 3) := by decide +kernel
theorem dX7_within_5 : decode cX7_within 5 = .ok (.iload_n 0, 1) := by decide +kernel
theorem dX7_within_6 : decode cX7_within 6 = .ok (.iload_n 2, 1) := by decide +kernel
theorem dX7_within_7 : decode cX7_within 7 = .ok (.if_icmp .gt 7, 3) := by decide +kernel
theorem dX7_within_10 : decode cX7_within 10 = .ok (.iconst 1, 1) := by decide +kernel
theorem dX7_within_11 : decode cX7_within 11 = .ok (.goto 4, 3) := by decide +kernel
theorem dX7_within_14 : decode cX7_within 14 = .ok (.iconst 0, 1) := by decide +kernel
theorem dX7_within_15 : decode cX7_within 15 = .ok (.ireturn, 1) := by decide +kernel
theorem dX7_of_0 : decode cX7_of 0 = .ok (.aload_n 0, 1) := by decide +kernel
theorem dX7_of_1 : decode cX7_of 1 = .ok (.getfield 7, 3) := by decide +kernel
theorem dX7_of_4 : decode cX7_of 4 = .ok (.bipush 8, 2) := by decide +kernel
theorem dX7_of_6 : decode cX7_of 6 = .ok (.iload_n 1, 1) := by decide +kernel
theorem dX7_of_7 : decode cX7_of 7 = .ok (.imul, 1) := by decide +kernel
theorem dX7_of_8 : decode cX7_of 8 = .ok (.iload_n 2, 1) := by decide +kernel
theorem dX7_of_9 : decode cX7_of 9 = .ok (.iadd, 1) := by decide +kernel
theorem dX7_of_10 : decode cX7_of 10 = .ok (.iaload, 1) := by decide +kernel
theorem dX7_of_11 : decode cX7_of 11 = .ok (.ireturn, 1) := by decide +kernel
theorem dX7_add_0 : decode cX7_add 0 = .ok (.aload_n 0, 1) := by decide +kernel
theorem dX7_add_1 : decode cX7_add 1 = .ok (.getfield 7, 3) := by decide +kernel
theorem dX7_add_4 : decode cX7_add 4 = .ok (.bipush 8, 2) := by decide +kernel
theorem dX7_add_6 : decode cX7_add 6 = .ok (.iload_n 1, 1) := by decide +kernel
theorem dX7_add_7 : decode cX7_add 7 = .ok (.imul, 1) := by decide +kernel
theorem dX7_add_8 : decode cX7_add 8 = .ok (.iload_n 2, 1) := by decide +kernel
theorem dX7_add_9 : decode cX7_add 9 = .ok (.iadd, 1) := by decide +kernel
theorem dX7_add_10 : decode cX7_add 10 = .ok (.dup2, 1) := by decide +kernel
theorem dX7_add_11 : decode cX7_add 11 = .ok (.iaload, 1) := by decide +kernel
theorem dX7_add_12 : decode cX7_add 12 = .ok (.iload_n 3, 1) := by decide +kernel
theorem dX7_add_13 : decode cX7_add 13 = .ok (.iadd, 1) := by decide +kernel
theorem dX7_add_14 : decode cX7_add 14 = .ok (.iastore, 1) := by decide +kernel
theorem dX7_add_15 : decode cX7_add 15 = .ok (.return_, 1) := by decide +kernel
theorem dX7_loanOf_0 : decode cX7_loanOf 0 = .ok (.aload_n 0, 1) := by decide +kernel
theorem dX7_loanOf_1 : decode cX7_loanOf 1 = .ok (.getfield 7, 3) := by decide +kernel
theorem dX7_loanOf_4 : decode cX7_loanOf 4 = .ok (.bipush 80, 2) := by decide +kernel
theorem dX7_loanOf_6 : decode cX7_loanOf 6 = .ok (.iconst 3, 1) := by decide +kernel
theorem dX7_loanOf_7 : decode cX7_loanOf 7 = .ok (.iload_n 1, 1) := by decide +kernel
theorem dX7_loanOf_8 : decode cX7_loanOf 8 = .ok (.imul, 1) := by decide +kernel
theorem dX7_loanOf_9 : decode cX7_loanOf 9 = .ok (.iadd, 1) := by decide +kernel
theorem dX7_loanOf_10 : decode cX7_loanOf 10 = .ok (.iload_n 2, 1) := by decide +kernel
theorem dX7_loanOf_11 : decode cX7_loanOf 11 = .ok (.iadd, 1) := by decide +kernel
theorem dX7_loanOf_12 : decode cX7_loanOf 12 = .ok (.iaload, 1) := by decide +kernel
theorem dX7_loanOf_13 : decode cX7_loanOf 13 = .ok (.ireturn, 1) := by decide +kernel
theorem dX7_cell_0 : decode cX7_cell 0 = .ok (.aload_n 0, 1) := by decide +kernel
theorem dX7_cell_1 : decode cX7_cell 1 = .ok (.getfield 7, 3) := by decide +kernel
theorem dX7_cell_4 : decode cX7_cell 4 = .ok (.bipush 116, 2) := by decide +kernel
theorem dX7_cell_6 : decode cX7_cell 6 = .ok (.iconst 4, 1) := by decide +kernel
theorem dX7_cell_7 : decode cX7_cell 7 = .ok (.iload_n 1, 1) := by decide +kernel
theorem dX7_cell_8 : decode cX7_cell 8 = .ok (.imul, 1) := by decide +kernel
theorem dX7_cell_9 : decode cX7_cell 9 = .ok (.iadd, 1) := by decide +kernel
theorem dX7_cell_10 : decode cX7_cell 10 = .ok (.iload_n 2, 1) := by decide +kernel
theorem dX7_cell_11 : decode cX7_cell 11 = .ok (.iadd, 1) := by decide +kernel
theorem dX7_cell_12 : decode cX7_cell 12 = .ok (.iaload, 1) := by decide +kernel
theorem dX7_cell_13 : decode cX7_cell 13 = .ok (.ireturn, 1) := by decide +kernel
theorem dX7_setting1_0 : decode cX7_setting1 0 = .ok (.aload_n 0, 1) := by decide +kernel
theorem dX7_setting1_1 : decode cX7_setting1 1 = .ok (.getfield 7, 3) := by decide +kernel
theorem dX7_setting1_4 : decode cX7_setting1 4 = .ok (.sipush 177, 3) := by decide +kernel
theorem dX7_setting1_7 : decode cX7_setting1 7 = .ok (.iload_n 1, 1) := by decide +kernel
theorem dX7_setting1_8 : decode cX7_setting1 8 = .ok (.iadd, 1) := by decide +kernel
theorem dX7_setting1_9 : decode cX7_setting1 9 = .ok (.iaload, 1) := by decide +kernel
theorem dX7_setting1_10 : decode cX7_setting1 10 = .ok (.ireturn, 1) := by decide +kernel
theorem dX7_isHouse_0 : decode cX7_isHouse 0 = .ok (.iload_n 1, 1) := by decide +kernel
theorem dX7_isHouse_1 : decode cX7_isHouse 1 = .ok (.iconst 0, 1) := by decide +kernel
theorem dX7_isHouse_2 : decode cX7_isHouse 2 = .ok (.aload_n 0, 1) := by decide +kernel
theorem dX7_isHouse_3 : decode cX7_isHouse 3 = .ok (.getfield 7, 3) := by decide +kernel
theorem dX7_isHouse_6 : decode cX7_isHouse 6 = .ok (.sipush 172, 3) := by decide +kernel
theorem dX7_isHouse_9 : decode cX7_isHouse 9 = .ok (.iaload, 1) := by decide +kernel
theorem dX7_isHouse_10 : decode cX7_isHouse 10 = .ok (.iconst 1, 1) := by decide +kernel
theorem dX7_isHouse_11 : decode cX7_isHouse 11 = .ok (.isub, 1) := by decide +kernel
theorem dX7_isHouse_12 : decode cX7_isHouse 12 = .ok (.invokestatic 31, 3) := by decide +kernel
theorem dX7_isHouse_15 : decode cX7_isHouse 15 = .ok (.ireturn, 1) := by decide +kernel
theorem dX7_copy_0 : decode cX7_copy 0 = .ok (.iconst 0, 1) := by decide +kernel
theorem dX7_copy_1 : decode cX7_copy 1 = .ok (.istore 5, 2) := by decide +kernel
theorem dX7_copy_3 : decode cX7_copy 3 = .ok (.iload 5, 2) := by decide +kernel
theorem dX7_copy_5 : decode cX7_copy 5 = .ok (.sipush 198, 3) := by decide +kernel
theorem dX7_copy_8 : decode cX7_copy 8 = .ok (.if_icmp .ge 22, 3) := by decide +kernel
theorem dX7_copy_11 : decode cX7_copy 11 = .ok (.aload_n 3, 1) := by decide +kernel
theorem dX7_copy_12 : decode cX7_copy 12 = .ok (.iload 4, 2) := by decide +kernel
theorem dX7_copy_14 : decode cX7_copy 14 = .ok (.iload 5, 2) := by decide +kernel
theorem dX7_copy_16 : decode cX7_copy 16 = .ok (.iadd, 1) := by decide +kernel
theorem dX7_copy_17 : decode cX7_copy 17 = .ok (.aload_n 1, 1) := by decide +kernel
theorem dX7_copy_18 : decode cX7_copy 18 = .ok (.iload_n 2, 1) := by decide +kernel
theorem dX7_copy_19 : decode cX7_copy 19 = .ok (.iload 5, 2) := by decide +kernel
theorem dX7_copy_21 : decode cX7_copy 21 = .ok (.iadd, 1) := by decide +kernel
theorem dX7_copy_22 : decode cX7_copy 22 = .ok (.iaload, 1) := by decide +kernel
theorem dX7_copy_23 : decode cX7_copy 23 = .ok (.iastore, 1) := by decide +kernel
theorem dX7_copy_24 : decode cX7_copy 24 = .ok (.iinc 5 1, 3) := by decide +kernel
theorem dX7_copy_27 : decode cX7_copy 27 = .ok (.goto (-24), 3) := by decide +kernel
theorem dX7_copy_30 : decode cX7_copy 30 = .ok (.return_, 1) := by decide +kernel
theorem dX7_record_0 : decode cX7_record 0 = .ok (.aload_n 0, 1) := by decide +kernel
theorem dX7_record_1 : decode cX7_record 1 = .ok (.getfield 35, 3) := by decide +kernel
theorem dX7_record_4 : decode cX7_record 4 = .ok (.bipush 8, 2) := by decide +kernel
theorem dX7_record_6 : decode cX7_record 6 = .ok (.if_icmp .ne 46, 3) := by decide +kernel
theorem dX7_record_9 : decode cX7_record 9 = .ok (.sipush 198, 3) := by decide +kernel
theorem dX7_record_12 : decode cX7_record 12 = .ok (.istore_n 1, 1) := by decide +kernel
theorem dX7_record_13 : decode cX7_record 13 = .ok (.iload_n 1, 1) := by decide +kernel
theorem dX7_record_14 : decode cX7_record 14 = .ok (.sipush 1584, 3) := by decide +kernel
theorem dX7_record_17 : decode cX7_record 17 = .ok (.if_icmp .ge 25, 3) := by decide +kernel
theorem dX7_record_20 : decode cX7_record 20 = .ok (.aload_n 0, 1) := by decide +kernel
theorem dX7_record_21 : decode cX7_record 21 = .ok (.getfield 16, 3) := by decide +kernel
theorem dX7_record_24 : decode cX7_record 24 = .ok (.iload_n 1, 1) := by decide +kernel
theorem dX7_record_25 : decode cX7_record 25 = .ok (.sipush 198, 3) := by decide +kernel
theorem dX7_record_28 : decode cX7_record 28 = .ok (.isub, 1) := by decide +kernel
theorem dX7_record_29 : decode cX7_record 29 = .ok (.aload_n 0, 1) := by decide +kernel
theorem dX7_record_30 : decode cX7_record 30 = .ok (.getfield 16, 3) := by decide +kernel
theorem dX7_record_33 : decode cX7_record 33 = .ok (.iload_n 1, 1) := by decide +kernel
theorem dX7_record_34 : decode cX7_record 34 = .ok (.iaload, 1) := by decide +kernel
theorem dX7_record_35 : decode cX7_record 35 = .ok (.iastore, 1) := by decide +kernel
theorem dX7_record_36 : decode cX7_record 36 = .ok (.iinc 1 1, 3) := by decide +kernel
theorem dX7_record_39 : decode cX7_record 39 = .ok (.goto (-26), 3) := by decide +kernel
theorem dX7_record_42 : decode cX7_record 42 = .ok (.aload_n 0, 1) := by decide +kernel
theorem dX7_record_43 : decode cX7_record 43 = .ok (.dup, 1) := by decide +kernel
theorem dX7_record_44 : decode cX7_record 44 = .ok (.getfield 35, 3) := by decide +kernel
theorem dX7_record_47 : decode cX7_record 47 = .ok (.iconst 1, 1) := by decide +kernel
theorem dX7_record_48 : decode cX7_record 48 = .ok (.isub, 1) := by decide +kernel
theorem dX7_record_49 : decode cX7_record 49 = .ok (.putfield 35, 3) := by decide +kernel
theorem dX7_record_52 : decode cX7_record 52 = .ok (.aload_n 0, 1) := by decide +kernel
theorem dX7_record_53 : decode cX7_record 53 = .ok (.aload_n 0, 1) := by decide +kernel
theorem dX7_record_54 : decode cX7_record 54 = .ok (.getfield 7, 3) := by decide +kernel
theorem dX7_record_57 : decode cX7_record 57 = .ok (.iconst 0, 1) := by decide +kernel
theorem dX7_record_58 : decode cX7_record 58 = .ok (.aload_n 0, 1) := by decide +kernel
theorem dX7_record_59 : decode cX7_record 59 = .ok (.getfield 16, 3) := by decide +kernel
theorem dX7_record_62 : decode cX7_record 62 = .ok (.sipush 198, 3) := by decide +kernel
theorem dX7_record_65 : decode cX7_record 65 = .ok (.aload_n 0, 1) := by decide +kernel
theorem dX7_record_66 : decode cX7_record 66 = .ok (.getfield 35, 3) := by decide +kernel
theorem dX7_record_69 : decode cX7_record 69 = .ok (.imul, 1) := by decide +kernel
theorem dX7_record_70 : decode cX7_record 70 = .ok (.invokevirtual 39, 3) := by decide +kernel
theorem dX7_record_73 : decode cX7_record 73 = .ok (.aload_n 0, 1) := by decide +kernel
theorem dX7_record_74 : decode cX7_record 74 = .ok (.dup, 1) := by decide +kernel
theorem dX7_record_75 : decode cX7_record 75 = .ok (.getfield 35, 3) := by decide +kernel
theorem dX7_record_78 : decode cX7_record 78 = .ok (.iconst 1, 1) := by decide +kernel
theorem dX7_record_79 : decode cX7_record 79 = .ok (.iadd, 1) := by decide +kernel
theorem dX7_record_80 : decode cX7_record 80 = .ok (.putfield 35, 3) := by decide +kernel
theorem dX7_record_83 : decode cX7_record 83 = .ok (.return_, 1) := by decide +kernel
theorem dX7_addHouse_0 : decode cX7_addHouse 0 = .ok (.iload_n 1, 1) := by decide +kernel
theorem dX7_addHouse_1 : decode cX7_addHouse 1 = .ok (.iconst 0, 1) := by decide +kernel
theorem dX7_addHouse_2 : decode cX7_addHouse 2 = .ok (.iconst 2, 1) := by decide +kernel
theorem dX7_addHouse_3 : decode cX7_addHouse 3 = .ok (.invokestatic 31, 3) := by decide +kernel
theorem dX7_addHouse_6 : decode cX7_addHouse 6 = .ok (.ifCond .eq 13, 3) := by decide +kernel
theorem dX7_addHouse_9 : decode cX7_addHouse 9 = .ok (.iload_n 2, 1) := by decide +kernel
theorem dX7_addHouse_10 : decode cX7_addHouse 10 = .ok (.iconst 0, 1) := by decide +kernel
theorem dX7_addHouse_11 : decode cX7_addHouse 11 = .ok (.bipush 50, 2) := by decide +kernel
theorem dX7_addHouse_13 : decode cX7_addHouse 13 = .ok (.invokestatic 31, 3) := by decide +kernel
theorem dX7_addHouse_16 : decode cX7_addHouse 16 = .ok (.ifCond .ne 6, 3) := by decide +kernel
theorem dX7_addHouse_19 : decode cX7_addHouse 19 = .ok (.ldc 43, 2) := by decide +kernel
theorem dX7_addHouse_21 : decode cX7_addHouse 21 = .ok (.ireturn, 1) := by decide +kernel
theorem dX7_addHouse_22 : decode cX7_addHouse 22 = .ok (.aload_n 0, 1) := by decide +kernel
theorem dX7_addHouse_23 : decode cX7_addHouse 23 = .ok (.getfield 7, 3) := by decide +kernel
theorem dX7_addHouse_26 : decode cX7_addHouse 26 = .ok (.sipush 172, 3) := by decide +kernel
theorem dX7_addHouse_29 : decode cX7_addHouse 29 = .ok (.iaload, 1) := by decide +kernel
theorem dX7_addHouse_30 : decode cX7_addHouse 30 = .ok (.bipush 10, 2) := by decide +kernel
theorem dX7_addHouse_32 : decode cX7_addHouse 32 = .ok (.if_icmp .ne 6, 3) := by decide +kernel
theorem dX7_addHouse_35 : decode cX7_addHouse 35 = .ok (.ldc 44, 2) := by decide +kernel
theorem dX7_addHouse_37 : decode cX7_addHouse 37 = .ok (.ireturn, 1) := by decide +kernel
theorem dX7_addHouse_38 : decode cX7_addHouse 38 = .ok (.aload_n 0, 1) := by decide +kernel
theorem dX7_addHouse_39 : decode cX7_addHouse 39 = .ok (.invokevirtual 45, 3) := by decide +kernel
theorem dX7_addHouse_42 : decode cX7_addHouse 42 = .ok (.aload_n 0, 1) := by decide +kernel
theorem dX7_addHouse_43 : decode cX7_addHouse 43 = .ok (.getfield 7, 3) := by decide +kernel
theorem dX7_addHouse_46 : decode cX7_addHouse 46 = .ok (.sipush 172, 3) := by decide +kernel
theorem dX7_addHouse_49 : decode cX7_addHouse 49 = .ok (.iaload, 1) := by decide +kernel
theorem dX7_addHouse_50 : decode cX7_addHouse 50 = .ok (.istore_n 3, 1) := by decide +kernel
theorem dX7_addHouse_51 : decode cX7_addHouse 51 = .ok (.iconst 0, 1) := by decide +kernel
theorem dX7_addHouse_52 : decode cX7_addHouse 52 = .ok (.istore 4, 2) := by decide +kernel
theorem dX7_addHouse_54 : decode cX7_addHouse 54 = .ok (.iload 4, 2) := by decide +kernel
theorem dX7_addHouse_56 : decode cX7_addHouse 56 = .ok (.bipush 8, 2) := by decide +kernel
theorem dX7_addHouse_58 : decode cX7_addHouse 58 = .ok (.if_icmp .ge 22, 3) := by decide +kernel
theorem dX7_addHouse_61 : decode cX7_addHouse 61 = .ok (.aload_n 0, 1) := by decide +kernel
theorem dX7_addHouse_62 : decode cX7_addHouse 62 = .ok (.getfield 7, 3) := by decide +kernel
theorem dX7_addHouse_65 : decode cX7_addHouse 65 = .ok (.bipush 8, 2) := by decide +kernel
theorem dX7_addHouse_67 : decode cX7_addHouse 67 = .ok (.iload_n 3, 1) := by decide +kernel
theorem dX7_addHouse_68 : decode cX7_addHouse 68 = .ok (.imul, 1) := by decide +kernel
theorem dX7_addHouse_69 : decode cX7_addHouse 69 = .ok (.iload 4, 2) := by decide +kernel
theorem dX7_addHouse_71 : decode cX7_addHouse 71 = .ok (.iadd, 1) := by decide +kernel
theorem dX7_addHouse_72 : decode cX7_addHouse 72 = .ok (.iconst 0, 1) := by decide +kernel
theorem dX7_addHouse_73 : decode cX7_addHouse 73 = .ok (.iastore, 1) := by decide +kernel
theorem dX7_addHouse_74 : decode cX7_addHouse 74 = .ok (.iinc 4 1, 3) := by decide +kernel
theorem dX7_addHouse_77 : decode cX7_addHouse 77 = .ok (.goto (-23), 3) := by decide +kernel
theorem dX7_addHouse_80 : decode cX7_addHouse 80 = .ok (.aload_n 0, 1) := by decide +kernel
theorem dX7_addHouse_81 : decode cX7_addHouse 81 = .ok (.getfield 7, 3) := by decide +kernel
theorem dX7_addHouse_84 : decode cX7_addHouse 84 = .ok (.bipush 8, 2) := by decide +kernel
theorem dX7_addHouse_86 : decode cX7_addHouse 86 = .ok (.iload_n 3, 1) := by decide +kernel
theorem dX7_addHouse_87 : decode cX7_addHouse 87 = .ok (.imul, 1) := by decide +kernel
theorem dX7_addHouse_88 : decode cX7_addHouse 88 = .ok (.iconst 0, 1) := by decide +kernel
theorem dX7_addHouse_89 : decode cX7_addHouse 89 = .ok (.iadd, 1) := by decide +kernel
theorem dX7_addHouse_90 : decode cX7_addHouse 90 = .ok (.iload_n 1, 1) := by decide +kernel
theorem dX7_addHouse_91 : decode cX7_addHouse 91 = .ok (.iastore, 1) := by decide +kernel
theorem dX7_addHouse_92 : decode cX7_addHouse 92 = .ok (.aload_n 0, 1) := by decide +kernel
theorem dX7_addHouse_93 : decode cX7_addHouse 93 = .ok (.getfield 7, 3) := by decide +kernel
theorem dX7_addHouse_96 : decode cX7_addHouse 96 = .ok (.bipush 8, 2) := by decide +kernel
theorem dX7_addHouse_98 : decode cX7_addHouse 98 = .ok (.iload_n 3, 1) := by decide +kernel
theorem dX7_addHouse_99 : decode cX7_addHouse 99 = .ok (.imul, 1) := by decide +kernel
theorem dX7_addHouse_100 : decode cX7_addHouse 100 = .ok (.iconst 1, 1) := by decide +kernel
theorem dX7_addHouse_101 : decode cX7_addHouse 101 = .ok (.iadd, 1) := by decide +kernel
theorem dX7_addHouse_102 : decode cX7_addHouse 102 = .ok (.iload_n 2, 1) := by decide +kernel
theorem dX7_addHouse_103 : decode cX7_addHouse 103 = .ok (.iastore, 1) := by decide +kernel
theorem dX7_addHouse_104 : decode cX7_addHouse 104 = .ok (.aload_n 0, 1) := by decide +kernel
theorem dX7_addHouse_105 : decode cX7_addHouse 105 = .ok (.getfield 7, 3) := by decide +kernel
theorem dX7_addHouse_108 : decode cX7_addHouse 108 = .ok (.bipush 8, 2) := by decide +kernel
theorem dX7_addHouse_110 : decode cX7_addHouse 110 = .ok (.iload_n 3, 1) := by decide +kernel
theorem dX7_addHouse_111 : decode cX7_addHouse 111 = .ok (.imul, 1) := by decide +kernel
theorem dX7_addHouse_112 : decode cX7_addHouse 112 = .ok (.iconst 3, 1) := by decide +kernel
theorem dX7_addHouse_113 : decode cX7_addHouse 113 = .ok (.iadd, 1) := by decide +kernel
theorem dX7_addHouse_114 : decode cX7_addHouse 114 = .ok (.iconst 1, 1) := by decide +kernel
theorem dX7_addHouse_115 : decode cX7_addHouse 115 = .ok (.iastore, 1) := by decide +kernel
theorem dX7_addHouse_116 : decode cX7_addHouse 116 = .ok (.aload_n 0, 1) := by decide +kernel
theorem dX7_addHouse_117 : decode cX7_addHouse 117 = .ok (.getfield 7, 3) := by decide +kernel
theorem dX7_addHouse_120 : decode cX7_addHouse 120 = .ok (.sipush 172, 3) := by decide +kernel
theorem dX7_addHouse_123 : decode cX7_addHouse 123 = .ok (.dup2, 1) := by decide +kernel
theorem dX7_addHouse_124 : decode cX7_addHouse 124 = .ok (.iaload, 1) := by decide +kernel
theorem dX7_addHouse_125 : decode cX7_addHouse 125 = .ok (.iconst 1, 1) := by decide +kernel
theorem dX7_addHouse_126 : decode cX7_addHouse 126 = .ok (.iadd, 1) := by decide +kernel
theorem dX7_addHouse_127 : decode cX7_addHouse 127 = .ok (.iastore, 1) := by decide +kernel
theorem dX7_addHouse_128 : decode cX7_addHouse 128 = .ok (.iload_n 3, 1) := by decide +kernel
theorem dX7_addHouse_129 : decode cX7_addHouse 129 = .ok (.ireturn, 1) := by decide +kernel
theorem dX7_isProperty_0 : decode cX7_isProperty 0 = .ok (.iload_n 0, 1) := by decide +kernel
theorem dX7_isProperty_1 : decode cX7_isProperty 1 = .ok (.tableswitch 62 0 3 #[31, 38, 46, 55], 31) := by decide +kernel
theorem dX7_isProperty_32 : decode cX7_isProperty 32 = .ok (.iload_n 1, 1) := by decide +kernel
theorem dX7_isProperty_33 : decode cX7_isProperty 33 = .ok (.iconst 0, 1) := by decide +kernel
theorem dX7_isProperty_34 : decode cX7_isProperty 34 = .ok (.iconst 2, 1) := by decide +kernel
theorem dX7_isProperty_35 : decode cX7_isProperty 35 = .ok (.invokestatic 31, 3) := by decide +kernel
theorem dX7_isProperty_38 : decode cX7_isProperty 38 = .ok (.ireturn, 1) := by decide +kernel
theorem dX7_isProperty_39 : decode cX7_isProperty 39 = .ok (.iload_n 1, 1) := by decide +kernel
theorem dX7_isProperty_40 : decode cX7_isProperty 40 = .ok (.iconst 0, 1) := by decide +kernel
theorem dX7_isProperty_41 : decode cX7_isProperty 41 = .ok (.bipush 50, 2) := by decide +kernel
theorem dX7_isProperty_43 : decode cX7_isProperty 43 = .ok (.invokestatic 31, 3) := by decide +kernel
theorem dX7_isProperty_46 : decode cX7_isProperty 46 = .ok (.ireturn, 1) := by decide +kernel
theorem dX7_isProperty_47 : decode cX7_isProperty 47 = .ok (.iload_n 1, 1) := by decide +kernel
theorem dX7_isProperty_48 : decode cX7_isProperty 48 = .ok (.iconst 0, 1) := by decide +kernel
theorem dX7_isProperty_49 : decode cX7_isProperty 49 = .ok (.sipush 1000, 3) := by decide +kernel
theorem dX7_isProperty_52 : decode cX7_isProperty 52 = .ok (.invokestatic 31, 3) := by decide +kernel
theorem dX7_isProperty_55 : decode cX7_isProperty 55 = .ok (.ireturn, 1) := by decide +kernel
theorem dX7_isProperty_56 : decode cX7_isProperty 56 = .ok (.iload_n 1, 1) := by decide +kernel
theorem dX7_isProperty_57 : decode cX7_isProperty 57 = .ok (.iconst 0, 1) := by decide +kernel
theorem dX7_isProperty_58 : decode cX7_isProperty 58 = .ok (.iconst 1, 1) := by decide +kernel
theorem dX7_isProperty_59 : decode cX7_isProperty 59 = .ok (.invokestatic 31, 3) := by decide +kernel
theorem dX7_isProperty_62 : decode cX7_isProperty 62 = .ok (.ireturn, 1) := by decide +kernel
theorem dX7_isProperty_63 : decode cX7_isProperty 63 = .ok (.iconst 0, 1) := by decide +kernel
theorem dX7_isProperty_64 : decode cX7_isProperty 64 = .ok (.ireturn, 1) := by decide +kernel
theorem dX7_setHouse_0 : decode cX7_setHouse 0 = .ok (.aload_n 0, 1) := by decide +kernel
theorem dX7_setHouse_1 : decode cX7_setHouse 1 = .ok (.iload_n 1, 1) := by decide +kernel
theorem dX7_setHouse_2 : decode cX7_setHouse 2 = .ok (.invokevirtual 48, 3) := by decide +kernel
theorem dX7_setHouse_5 : decode cX7_setHouse 5 = .ok (.ifCond .eq 11, 3) := by decide +kernel
theorem dX7_setHouse_8 : decode cX7_setHouse 8 = .ok (.iload_n 2, 1) := by decide +kernel
theorem dX7_setHouse_9 : decode cX7_setHouse 9 = .ok (.iload_n 3, 1) := by decide +kernel
theorem dX7_setHouse_10 : decode cX7_setHouse 10 = .ok (.invokestatic 52, 3) := by decide +kernel
theorem dX7_setHouse_13 : decode cX7_setHouse 13 = .ok (.ifCond .ne 6, 3) := by decide +kernel
theorem dX7_setHouse_16 : decode cX7_setHouse 16 = .ok (.ldc 43, 2) := by decide +kernel
theorem dX7_setHouse_18 : decode cX7_setHouse 18 = .ok (.ireturn, 1) := by decide +kernel
theorem dX7_setHouse_19 : decode cX7_setHouse 19 = .ok (.aload_n 0, 1) := by decide +kernel
theorem dX7_setHouse_20 : decode cX7_setHouse 20 = .ok (.invokevirtual 45, 3) := by decide +kernel
theorem dX7_setHouse_23 : decode cX7_setHouse 23 = .ok (.aload_n 0, 1) := by decide +kernel
theorem dX7_setHouse_24 : decode cX7_setHouse 24 = .ok (.iload_n 1, 1) := by decide +kernel
theorem dX7_setHouse_25 : decode cX7_setHouse 25 = .ok (.iload_n 2, 1) := by decide +kernel
theorem dX7_setHouse_26 : decode cX7_setHouse 26 = .ok (.invokevirtual 56, 3) := by decide +kernel
theorem dX7_setHouse_29 : decode cX7_setHouse 29 = .ok (.istore 4, 2) := by decide +kernel
theorem dX7_setHouse_31 : decode cX7_setHouse 31 = .ok (.aload_n 0, 1) := by decide +kernel
theorem dX7_setHouse_32 : decode cX7_setHouse 32 = .ok (.getfield 7, 3) := by decide +kernel
theorem dX7_setHouse_35 : decode cX7_setHouse 35 = .ok (.bipush 8, 2) := by decide +kernel
theorem dX7_setHouse_37 : decode cX7_setHouse 37 = .ok (.iload_n 1, 1) := by decide +kernel
theorem dX7_setHouse_38 : decode cX7_setHouse 38 = .ok (.imul, 1) := by decide +kernel
theorem dX7_setHouse_39 : decode cX7_setHouse 39 = .ok (.iload_n 2, 1) := by decide +kernel
theorem dX7_setHouse_40 : decode cX7_setHouse 40 = .ok (.iadd, 1) := by decide +kernel
theorem dX7_setHouse_41 : decode cX7_setHouse 41 = .ok (.iload_n 3, 1) := by decide +kernel
theorem dX7_setHouse_42 : decode cX7_setHouse 42 = .ok (.iastore, 1) := by decide +kernel
theorem dX7_setHouse_43 : decode cX7_setHouse 43 = .ok (.iload 4, 2) := by decide +kernel
theorem dX7_setHouse_45 : decode cX7_setHouse 45 = .ok (.ireturn, 1) := by decide +kernel
theorem dX7_owed_0 : decode cX7_owed 0 = .ok (.iconst 0, 1) := by decide +kernel
theorem dX7_owed_1 : decode cX7_owed 1 = .ok (.istore_n 3, 1) := by decide +kernel
theorem dX7_owed_2 : decode cX7_owed 2 = .ok (.iconst 0, 1) := by decide +kernel
theorem dX7_owed_3 : decode cX7_owed 3 = .ok (.istore 4, 2) := by decide +kernel
theorem dX7_owed_5 : decode cX7_owed 5 = .ok (.iload 4, 2) := by decide +kernel
theorem dX7_owed_7 : decode cX7_owed 7 = .ok (.aload_n 0, 1) := by decide +kernel
theorem dX7_owed_8 : decode cX7_owed 8 = .ok (.getfield 7, 3) := by decide +kernel
theorem dX7_owed_11 : decode cX7_owed 11 = .ok (.sipush 173, 3) := by decide +kernel
theorem dX7_owed_14 : decode cX7_owed 14 = .ok (.iaload, 1) := by decide +kernel
theorem dX7_owed_15 : decode cX7_owed 15 = .ok (.if_icmp .ge 34, 3) := by decide +kernel
theorem dX7_owed_18 : decode cX7_owed 18 = .ok (.iload_n 3, 1) := by decide +kernel
theorem dX7_owed_19 : decode cX7_owed 19 = .ok (.aload_n 0, 1) := by decide +kernel
theorem dX7_owed_20 : decode cX7_owed 20 = .ok (.iload 4, 2) := by decide +kernel
theorem dX7_owed_22 : decode cX7_owed 22 = .ok (.iload_n 2, 1) := by decide +kernel
theorem dX7_owed_23 : decode cX7_owed 23 = .ok (.invokevirtual 60, 3) := by decide +kernel
theorem dX7_owed_26 : decode cX7_owed 26 = .ok (.iload_n 1, 1) := by decide +kernel
theorem dX7_owed_27 : decode cX7_owed 27 = .ok (.if_icmp .ne 13, 3) := by decide +kernel
theorem dX7_owed_30 : decode cX7_owed 30 = .ok (.aload_n 0, 1) := by decide +kernel
theorem dX7_owed_31 : decode cX7_owed 31 = .ok (.iload 4, 2) := by decide +kernel
theorem dX7_owed_33 : decode cX7_owed 33 = .ok (.iconst 2, 1) := by decide +kernel
theorem dX7_owed_34 : decode cX7_owed 34 = .ok (.invokevirtual 60, 3) := by decide +kernel
theorem dX7_owed_37 : decode cX7_owed 37 = .ok (.goto 4, 3) := by decide +kernel
theorem dX7_owed_40 : decode cX7_owed 40 = .ok (.iconst 0, 1) := by decide +kernel
theorem dX7_owed_41 : decode cX7_owed 41 = .ok (.iadd, 1) := by decide +kernel
theorem dX7_owed_42 : decode cX7_owed 42 = .ok (.istore_n 3, 1) := by decide +kernel
theorem dX7_owed_43 : decode cX7_owed 43 = .ok (.iinc 4 1, 3) := by decide +kernel
theorem dX7_owed_46 : decode cX7_owed 46 = .ok (.goto (-41), 3) := by decide +kernel
theorem dX7_owed_49 : decode cX7_owed 49 = .ok (.iload_n 3, 1) := by decide +kernel
theorem dX7_owed_50 : decode cX7_owed 50 = .ok (.ireturn, 1) := by decide +kernel
theorem dX7_removeHouse_0 : decode cX7_removeHouse 0 = .ok (.aload_n 0, 1) := by decide +kernel
theorem dX7_removeHouse_1 : decode cX7_removeHouse 1 = .ok (.iload_n 1, 1) := by decide +kernel
theorem dX7_removeHouse_2 : decode cX7_removeHouse 2 = .ok (.invokevirtual 48, 3) := by decide +kernel
theorem dX7_removeHouse_5 : decode cX7_removeHouse 5 = .ok (.ifCond .ne 6, 3) := by decide +kernel
theorem dX7_removeHouse_8 : decode cX7_removeHouse 8 = .ok (.ldc 43, 2) := by decide +kernel
theorem dX7_removeHouse_10 : decode cX7_removeHouse 10 = .ok (.ireturn, 1) := by decide +kernel
theorem dX7_removeHouse_11 : decode cX7_removeHouse 11 = .ok (.aload_n 0, 1) := by decide +kernel
theorem dX7_removeHouse_12 : decode cX7_removeHouse 12 = .ok (.iload_n 1, 1) := by decide +kernel
theorem dX7_removeHouse_13 : decode cX7_removeHouse 13 = .ok (.iconst 0, 1) := by decide +kernel
theorem dX7_removeHouse_14 : decode cX7_removeHouse 14 = .ok (.invokevirtual 63, 3) := by decide +kernel
theorem dX7_removeHouse_17 : decode cX7_removeHouse 17 = .ok (.aload_n 0, 1) := by decide +kernel
theorem dX7_removeHouse_18 : decode cX7_removeHouse 18 = .ok (.iload_n 1, 1) := by decide +kernel
theorem dX7_removeHouse_19 : decode cX7_removeHouse 19 = .ok (.iconst 1, 1) := by decide +kernel
theorem dX7_removeHouse_20 : decode cX7_removeHouse 20 = .ok (.invokevirtual 63, 3) := by decide +kernel
theorem dX7_removeHouse_23 : decode cX7_removeHouse 23 = .ok (.iadd, 1) := by decide +kernel
theorem dX7_removeHouse_24 : decode cX7_removeHouse 24 = .ok (.ifCond .le 6, 3) := by decide +kernel
theorem dX7_removeHouse_27 : decode cX7_removeHouse 27 = .ok (.ldc 66, 2) := by decide +kernel
theorem dX7_removeHouse_29 : decode cX7_removeHouse 29 = .ok (.ireturn, 1) := by decide +kernel
theorem dX7_removeHouse_30 : decode cX7_removeHouse 30 = .ok (.aload_n 0, 1) := by decide +kernel
theorem dX7_removeHouse_31 : decode cX7_removeHouse 31 = .ok (.invokevirtual 45, 3) := by decide +kernel
theorem dX7_removeHouse_34 : decode cX7_removeHouse 34 = .ok (.aload_n 0, 1) := by decide +kernel
theorem dX7_removeHouse_35 : decode cX7_removeHouse 35 = .ok (.getfield 7, 3) := by decide +kernel
theorem dX7_removeHouse_38 : decode cX7_removeHouse 38 = .ok (.sipush 172, 3) := by decide +kernel
theorem dX7_removeHouse_41 : decode cX7_removeHouse 41 = .ok (.dup2, 1) := by decide +kernel
theorem dX7_removeHouse_42 : decode cX7_removeHouse 42 = .ok (.iaload, 1) := by decide +kernel
theorem dX7_removeHouse_43 : decode cX7_removeHouse 43 = .ok (.iconst 1, 1) := by decide +kernel
theorem dX7_removeHouse_44 : decode cX7_removeHouse 44 = .ok (.isub, 1) := by decide +kernel
theorem dX7_removeHouse_45 : decode cX7_removeHouse 45 = .ok (.iastore, 1) := by decide +kernel
theorem dX7_removeHouse_46 : decode cX7_removeHouse 46 = .ok (.bipush 8, 2) := by decide +kernel
theorem dX7_removeHouse_48 : decode cX7_removeHouse 48 = .ok (.iload_n 1, 1) := by decide +kernel
theorem dX7_removeHouse_49 : decode cX7_removeHouse 49 = .ok (.imul, 1) := by decide +kernel
theorem dX7_removeHouse_50 : decode cX7_removeHouse 50 = .ok (.istore_n 2, 1) := by decide +kernel
theorem dX7_removeHouse_51 : decode cX7_removeHouse 51 = .ok (.iload_n 2, 1) := by decide +kernel
theorem dX7_removeHouse_52 : decode cX7_removeHouse 52 = .ok (.bipush 8, 2) := by decide +kernel
theorem dX7_removeHouse_54 : decode cX7_removeHouse 54 = .ok (.aload_n 0, 1) := by decide +kernel
theorem dX7_removeHouse_55 : decode cX7_removeHouse 55 = .ok (.getfield 7, 3) := by decide +kernel
theorem dX7_removeHouse_58 : decode cX7_removeHouse 58 = .ok (.sipush 172, 3) := by decide +kernel
theorem dX7_removeHouse_61 : decode cX7_removeHouse 61 = .ok (.iaload, 1) := by decide +kernel
theorem dX7_removeHouse_62 : decode cX7_removeHouse 62 = .ok (.imul, 1) := by decide +kernel
theorem dX7_removeHouse_63 : decode cX7_removeHouse 63 = .ok (.if_icmp .ge 24, 3) := by decide +kernel
theorem dX7_removeHouse_66 : decode cX7_removeHouse 66 = .ok (.aload_n 0, 1) := by decide +kernel
theorem dX7_removeHouse_67 : decode cX7_removeHouse 67 = .ok (.getfield 7, 3) := by decide +kernel
theorem dX7_removeHouse_70 : decode cX7_removeHouse 70 = .ok (.iload_n 2, 1) := by decide +kernel
theorem dX7_removeHouse_71 : decode cX7_removeHouse 71 = .ok (.aload_n 0, 1) := by decide +kernel
theorem dX7_removeHouse_72 : decode cX7_removeHouse 72 = .ok (.getfield 7, 3) := by decide +kernel
theorem dX7_removeHouse_75 : decode cX7_removeHouse 75 = .ok (.iload_n 2, 1) := by decide +kernel
theorem dX7_removeHouse_76 : decode cX7_removeHouse 76 = .ok (.bipush 8, 2) := by decide +kernel
theorem dX7_removeHouse_78 : decode cX7_removeHouse 78 = .ok (.iadd, 1) := by decide +kernel
theorem dX7_removeHouse_79 : decode cX7_removeHouse 79 = .ok (.iaload, 1) := by decide +kernel
theorem dX7_removeHouse_80 : decode cX7_removeHouse 80 = .ok (.iastore, 1) := by decide +kernel
theorem dX7_removeHouse_81 : decode cX7_removeHouse 81 = .ok (.iinc 2 1, 3) := by decide +kernel
theorem dX7_removeHouse_84 : decode cX7_removeHouse 84 = .ok (.goto (-33), 3) := by decide +kernel
theorem dX7_removeHouse_87 : decode cX7_removeHouse 87 = .ok (.iconst 0, 1) := by decide +kernel
theorem dX7_removeHouse_88 : decode cX7_removeHouse 88 = .ok (.istore_n 2, 1) := by decide +kernel
theorem dX7_removeHouse_89 : decode cX7_removeHouse 89 = .ok (.iload_n 2, 1) := by decide +kernel
theorem dX7_removeHouse_90 : decode cX7_removeHouse 90 = .ok (.aload_n 0, 1) := by decide +kernel
theorem dX7_removeHouse_91 : decode cX7_removeHouse 91 = .ok (.getfield 7, 3) := by decide +kernel
theorem dX7_removeHouse_94 : decode cX7_removeHouse 94 = .ok (.sipush 173, 3) := by decide +kernel
theorem dX7_removeHouse_97 : decode cX7_removeHouse 97 = .ok (.iaload, 1) := by decide +kernel
theorem dX7_removeHouse_98 : decode cX7_removeHouse 98 = .ok (.if_icmp .ge 53, 3) := by decide +kernel
theorem dX7_removeHouse_101 : decode cX7_removeHouse 101 = .ok (.iconst 0, 1) := by decide +kernel
theorem dX7_removeHouse_102 : decode cX7_removeHouse 102 = .ok (.istore_n 3, 1) := by decide +kernel
theorem dX7_removeHouse_103 : decode cX7_removeHouse 103 = .ok (.iload_n 3, 1) := by decide +kernel
theorem dX7_removeHouse_104 : decode cX7_removeHouse 104 = .ok (.iconst 2, 1) := by decide +kernel
theorem dX7_removeHouse_105 : decode cX7_removeHouse 105 = .ok (.if_icmp .ge 40, 3) := by decide +kernel
theorem dX7_removeHouse_108 : decode cX7_removeHouse 108 = .ok (.aload_n 0, 1) := by decide +kernel
theorem dX7_removeHouse_109 : decode cX7_removeHouse 109 = .ok (.getfield 7, 3) := by decide +kernel
theorem dX7_removeHouse_112 : decode cX7_removeHouse 112 = .ok (.bipush 80, 2) := by decide +kernel
theorem dX7_removeHouse_114 : decode cX7_removeHouse 114 = .ok (.iconst 3, 1) := by decide +kernel
theorem dX7_removeHouse_115 : decode cX7_removeHouse 115 = .ok (.iload_n 2, 1) := by decide +kernel
theorem dX7_removeHouse_116 : decode cX7_removeHouse 116 = .ok (.imul, 1) := by decide +kernel
theorem dX7_removeHouse_117 : decode cX7_removeHouse 117 = .ok (.iadd, 1) := by decide +kernel
theorem dX7_removeHouse_118 : decode cX7_removeHouse 118 = .ok (.iload_n 3, 1) := by decide +kernel
theorem dX7_removeHouse_119 : decode cX7_removeHouse 119 = .ok (.iadd, 1) := by decide +kernel
theorem dX7_removeHouse_120 : decode cX7_removeHouse 120 = .ok (.dup2, 1) := by decide +kernel
theorem dX7_removeHouse_121 : decode cX7_removeHouse 121 = .ok (.iaload, 1) := by decide +kernel
theorem dX7_removeHouse_122 : decode cX7_removeHouse 122 = .ok (.aload_n 0, 1) := by decide +kernel
theorem dX7_removeHouse_123 : decode cX7_removeHouse 123 = .ok (.iload_n 2, 1) := by decide +kernel
theorem dX7_removeHouse_124 : decode cX7_removeHouse 124 = .ok (.iload_n 3, 1) := by decide +kernel
theorem dX7_removeHouse_125 : decode cX7_removeHouse 125 = .ok (.invokevirtual 60, 3) := by decide +kernel
theorem dX7_removeHouse_128 : decode cX7_removeHouse 128 = .ok (.iload_n 1, 1) := by decide +kernel
theorem dX7_removeHouse_129 : decode cX7_removeHouse 129 = .ok (.if_icmp .le 7, 3) := by decide +kernel
theorem dX7_removeHouse_132 : decode cX7_removeHouse 132 = .ok (.iconst 1, 1) := by decide +kernel
theorem dX7_removeHouse_133 : decode cX7_removeHouse 133 = .ok (.goto 4, 3) := by decide +kernel
theorem dX7_removeHouse_136 : decode cX7_removeHouse 136 = .ok (.iconst 0, 1) := by decide +kernel
theorem dX7_removeHouse_137 : decode cX7_removeHouse 137 = .ok (.isub, 1) := by decide +kernel
theorem dX7_removeHouse_138 : decode cX7_removeHouse 138 = .ok (.iastore, 1) := by decide +kernel
theorem dX7_removeHouse_139 : decode cX7_removeHouse 139 = .ok (.iinc 3 1, 3) := by decide +kernel
theorem dX7_removeHouse_142 : decode cX7_removeHouse 142 = .ok (.goto (-39), 3) := by decide +kernel
theorem dX7_removeHouse_145 : decode cX7_removeHouse 145 = .ok (.iinc 2 1, 3) := by decide +kernel
theorem dX7_removeHouse_148 : decode cX7_removeHouse 148 = .ok (.goto (-59), 3) := by decide +kernel
theorem dX7_removeHouse_151 : decode cX7_removeHouse 151 = .ok (.aload_n 0, 1) := by decide +kernel
theorem dX7_removeHouse_152 : decode cX7_removeHouse 152 = .ok (.getfield 7, 3) := by decide +kernel
theorem dX7_removeHouse_155 : decode cX7_removeHouse 155 = .ok (.sipush 172, 3) := by decide +kernel
theorem dX7_removeHouse_158 : decode cX7_removeHouse 158 = .ok (.iaload, 1) := by decide +kernel
theorem dX7_removeHouse_159 : decode cX7_removeHouse 159 = .ok (.ireturn, 1) := by decide +kernel
theorem dX7_dropPaid_0 : decode cX7_dropPaid 0 = .ok (.iconst 0, 1) := by decide +kernel
theorem dX7_dropPaid_1 : decode cX7_dropPaid 1 = .ok (.istore_n 1, 1) := by decide +kernel
theorem dX7_dropPaid_2 : decode cX7_dropPaid 2 = .ok (.iconst 0, 1) := by decide +kernel
theorem dX7_dropPaid_3 : decode cX7_dropPaid 3 = .ok (.istore_n 2, 1) := by decide +kernel
theorem dX7_dropPaid_4 : decode cX7_dropPaid 4 = .ok (.iload_n 2, 1) := by decide +kernel
theorem dX7_dropPaid_5 : decode cX7_dropPaid 5 = .ok (.aload_n 0, 1) := by decide +kernel
theorem dX7_dropPaid_6 : decode cX7_dropPaid 6 = .ok (.getfield 7, 3) := by decide +kernel
theorem dX7_dropPaid_9 : decode cX7_dropPaid 9 = .ok (.sipush 173, 3) := by decide +kernel
theorem dX7_dropPaid_12 : decode cX7_dropPaid 12 = .ok (.iaload, 1) := by decide +kernel
theorem dX7_dropPaid_13 : decode cX7_dropPaid 13 = .ok (.if_icmp .ge 53, 3) := by decide +kernel
theorem dX7_dropPaid_16 : decode cX7_dropPaid 16 = .ok (.aload_n 0, 1) := by decide +kernel
theorem dX7_dropPaid_17 : decode cX7_dropPaid 17 = .ok (.iload_n 2, 1) := by decide +kernel
theorem dX7_dropPaid_18 : decode cX7_dropPaid 18 = .ok (.iconst 2, 1) := by decide +kernel
theorem dX7_dropPaid_19 : decode cX7_dropPaid 19 = .ok (.invokevirtual 60, 3) := by decide +kernel
theorem dX7_dropPaid_22 : decode cX7_dropPaid 22 = .ok (.ifCond .le 38, 3) := by decide +kernel
theorem dX7_dropPaid_25 : decode cX7_dropPaid 25 = .ok (.iconst 0, 1) := by decide +kernel
theorem dX7_dropPaid_26 : decode cX7_dropPaid 26 = .ok (.istore_n 3, 1) := by decide +kernel
theorem dX7_dropPaid_27 : decode cX7_dropPaid 27 = .ok (.iload_n 3, 1) := by decide +kernel
theorem dX7_dropPaid_28 : decode cX7_dropPaid 28 = .ok (.iconst 3, 1) := by decide +kernel
theorem dX7_dropPaid_29 : decode cX7_dropPaid 29 = .ok (.if_icmp .ge 28, 3) := by decide +kernel
theorem dX7_dropPaid_32 : decode cX7_dropPaid 32 = .ok (.aload_n 0, 1) := by decide +kernel
theorem dX7_dropPaid_33 : decode cX7_dropPaid 33 = .ok (.getfield 7, 3) := by decide +kernel
theorem dX7_dropPaid_36 : decode cX7_dropPaid 36 = .ok (.bipush 80, 2) := by decide +kernel
theorem dX7_dropPaid_38 : decode cX7_dropPaid 38 = .ok (.iconst 3, 1) := by decide +kernel
theorem dX7_dropPaid_39 : decode cX7_dropPaid 39 = .ok (.iload_n 1, 1) := by decide +kernel
theorem dX7_dropPaid_40 : decode cX7_dropPaid 40 = .ok (.imul, 1) := by decide +kernel
theorem dX7_dropPaid_41 : decode cX7_dropPaid 41 = .ok (.iadd, 1) := by decide +kernel
theorem dX7_dropPaid_42 : decode cX7_dropPaid 42 = .ok (.iload_n 3, 1) := by decide +kernel
theorem dX7_dropPaid_43 : decode cX7_dropPaid 43 = .ok (.iadd, 1) := by decide +kernel
theorem dX7_dropPaid_44 : decode cX7_dropPaid 44 = .ok (.aload_n 0, 1) := by decide +kernel
theorem dX7_dropPaid_45 : decode cX7_dropPaid 45 = .ok (.iload_n 2, 1) := by decide +kernel
theorem dX7_dropPaid_46 : decode cX7_dropPaid 46 = .ok (.iload_n 3, 1) := by decide +kernel
theorem dX7_dropPaid_47 : decode cX7_dropPaid 47 = .ok (.invokevirtual 60, 3) := by decide +kernel
theorem dX7_dropPaid_50 : decode cX7_dropPaid 50 = .ok (.iastore, 1) := by decide +kernel
theorem dX7_dropPaid_51 : decode cX7_dropPaid 51 = .ok (.iinc 3 1, 3) := by decide +kernel
theorem dX7_dropPaid_54 : decode cX7_dropPaid 54 = .ok (.goto (-27), 3) := by decide +kernel
theorem dX7_dropPaid_57 : decode cX7_dropPaid 57 = .ok (.iinc 1 1, 3) := by decide +kernel
theorem dX7_dropPaid_60 : decode cX7_dropPaid 60 = .ok (.iinc 2 1, 3) := by decide +kernel
theorem dX7_dropPaid_63 : decode cX7_dropPaid 63 = .ok (.goto (-59), 3) := by decide +kernel
theorem dX7_dropPaid_66 : decode cX7_dropPaid 66 = .ok (.aload_n 0, 1) := by decide +kernel
theorem dX7_dropPaid_67 : decode cX7_dropPaid 67 = .ok (.getfield 7, 3) := by decide +kernel
theorem dX7_dropPaid_70 : decode cX7_dropPaid 70 = .ok (.sipush 173, 3) := by decide +kernel
theorem dX7_dropPaid_73 : decode cX7_dropPaid 73 = .ok (.iload_n 1, 1) := by decide +kernel
theorem dX7_dropPaid_74 : decode cX7_dropPaid 74 = .ok (.iastore, 1) := by decide +kernel
theorem dX7_dropPaid_75 : decode cX7_dropPaid 75 = .ok (.return_, 1) := by decide +kernel
theorem dX7_token_0 : decode cX7_token 0 = .ok (.iload_n 2, 1) := by decide +kernel
theorem dX7_token_1 : decode cX7_token 1 = .ok (.aload_n 0, 1) := by decide +kernel
theorem dX7_token_2 : decode cX7_token 2 = .ok (.iconst 1, 1) := by decide +kernel
theorem dX7_token_3 : decode cX7_token 3 = .ok (.invokevirtual 67, 3) := by decide +kernel
theorem dX7_token_6 : decode cX7_token 6 = .ok (.imul, 1) := by decide +kernel
theorem dX7_token_7 : decode cX7_token 7 = .ok (.bipush 100, 2) := by decide +kernel
theorem dX7_token_9 : decode cX7_token 9 = .ok (.idiv, 1) := by decide +kernel
theorem dX7_token_10 : decode cX7_token 10 = .ok (.istore_n 3, 1) := by decide +kernel
theorem dX7_token_11 : decode cX7_token 11 = .ok (.iload_n 3, 1) := by decide +kernel
theorem dX7_token_12 : decode cX7_token 12 = .ok (.aload_n 0, 1) := by decide +kernel
theorem dX7_token_13 : decode cX7_token 13 = .ok (.iload_n 1, 1) := by decide +kernel
theorem dX7_token_14 : decode cX7_token 14 = .ok (.iconst 2, 1) := by decide +kernel
theorem dX7_token_15 : decode cX7_token 15 = .ok (.invokevirtual 56, 3) := by decide +kernel
theorem dX7_token_18 : decode cX7_token 18 = .ok (.if_icmp .ge 7, 3) := by decide +kernel
theorem dX7_token_21 : decode cX7_token 21 = .ok (.iload_n 3, 1) := by decide +kernel
theorem dX7_token_22 : decode cX7_token 22 = .ok (.goto 9, 3) := by decide +kernel
theorem dX7_token_25 : decode cX7_token 25 = .ok (.aload_n 0, 1) := by decide +kernel
theorem dX7_token_26 : decode cX7_token 26 = .ok (.iload_n 1, 1) := by decide +kernel
theorem dX7_token_27 : decode cX7_token 27 = .ok (.iconst 2, 1) := by decide +kernel
theorem dX7_token_28 : decode cX7_token 28 = .ok (.invokevirtual 56, 3) := by decide +kernel
theorem dX7_token_31 : decode cX7_token 31 = .ok (.istore 4, 2) := by decide +kernel
theorem dX7_token_33 : decode cX7_token 33 = .ok (.aload_n 0, 1) := by decide +kernel
theorem dX7_token_34 : decode cX7_token 34 = .ok (.iload_n 1, 1) := by decide +kernel
theorem dX7_token_35 : decode cX7_token 35 = .ok (.iconst 2, 1) := by decide +kernel
theorem dX7_token_36 : decode cX7_token 36 = .ok (.iload 4, 2) := by decide +kernel
theorem dX7_token_38 : decode cX7_token 38 = .ok (.ineg, 1) := by decide +kernel
theorem dX7_token_39 : decode cX7_token 39 = .ok (.invokevirtual 71, 3) := by decide +kernel
theorem dX7_token_42 : decode cX7_token 42 = .ok (.iload_n 2, 1) := by decide +kernel
theorem dX7_token_43 : decode cX7_token 43 = .ok (.iload 4, 2) := by decide +kernel
theorem dX7_token_45 : decode cX7_token 45 = .ok (.isub, 1) := by decide +kernel
theorem dX7_token_46 : decode cX7_token 46 = .ok (.istore 5, 2) := by decide +kernel
theorem dX7_token_48 : decode cX7_token 48 = .ok (.aload_n 0, 1) := by decide +kernel
theorem dX7_token_49 : decode cX7_token 49 = .ok (.iload_n 1, 1) := by decide +kernel
theorem dX7_token_50 : decode cX7_token 50 = .ok (.iconst 1, 1) := by decide +kernel
theorem dX7_token_51 : decode cX7_token 51 = .ok (.invokevirtual 63, 3) := by decide +kernel
theorem dX7_token_54 : decode cX7_token 54 = .ok (.istore 6, 2) := by decide +kernel
theorem dX7_token_56 : decode cX7_token 56 = .ok (.iload 5, 2) := by decide +kernel
theorem dX7_token_58 : decode cX7_token 58 = .ok (.aload_n 0, 1) := by decide +kernel
theorem dX7_token_59 : decode cX7_token 59 = .ok (.iconst 2, 1) := by decide +kernel
theorem dX7_token_60 : decode cX7_token 60 = .ok (.invokevirtual 67, 3) := by decide +kernel
theorem dX7_token_63 : decode cX7_token 63 = .ok (.imul, 1) := by decide +kernel
theorem dX7_token_64 : decode cX7_token 64 = .ok (.bipush 100, 2) := by decide +kernel
theorem dX7_token_66 : decode cX7_token 66 = .ok (.idiv, 1) := by decide +kernel
theorem dX7_token_67 : decode cX7_token 67 = .ok (.istore 7, 2) := by decide +kernel
theorem dX7_token_69 : decode cX7_token 69 = .ok (.iload 7, 2) := by decide +kernel
theorem dX7_token_71 : decode cX7_token 71 = .ok (.iload 6, 2) := by decide +kernel
theorem dX7_token_73 : decode cX7_token 73 = .ok (.if_icmp .ge 8, 3) := by decide +kernel
theorem dX7_token_76 : decode cX7_token 76 = .ok (.iload 7, 2) := by decide +kernel
theorem dX7_token_78 : decode cX7_token 78 = .ok (.goto 5, 3) := by decide +kernel
theorem dX7_token_81 : decode cX7_token 81 = .ok (.iload 6, 2) := by decide +kernel
theorem dX7_token_83 : decode cX7_token 83 = .ok (.istore 7, 2) := by decide +kernel
theorem dX7_token_85 : decode cX7_token 85 = .ok (.iload 7, 2) := by decide +kernel
theorem dX7_token_87 : decode cX7_token 87 = .ok (.istore 8, 2) := by decide +kernel
theorem dX7_token_89 : decode cX7_token 89 = .ok (.iconst 0, 1) := by decide +kernel
theorem dX7_token_90 : decode cX7_token 90 = .ok (.istore 9, 2) := by decide +kernel
theorem dX7_token_92 : decode cX7_token 92 = .ok (.iload 9, 2) := by decide +kernel
theorem dX7_token_94 : decode cX7_token 94 = .ok (.aload_n 0, 1) := by decide +kernel
theorem dX7_token_95 : decode cX7_token 95 = .ok (.getfield 7, 3) := by decide +kernel
theorem dX7_token_98 : decode cX7_token 98 = .ok (.sipush 173, 3) := by decide +kernel
theorem dX7_token_101 : decode cX7_token 101 = .ok (.iaload, 1) := by decide +kernel
theorem dX7_token_102 : decode cX7_token 102 = .ok (.if_icmp .ge 86, 3) := by decide +kernel
theorem dX7_token_105 : decode cX7_token 105 = .ok (.aload_n 0, 1) := by decide +kernel
theorem dX7_token_106 : decode cX7_token 106 = .ok (.iload 9, 2) := by decide +kernel
theorem dX7_token_108 : decode cX7_token 108 = .ok (.iconst 1, 1) := by decide +kernel
theorem dX7_token_109 : decode cX7_token 109 = .ok (.invokevirtual 60, 3) := by decide +kernel
theorem dX7_token_112 : decode cX7_token 112 = .ok (.iload_n 1, 1) := by decide +kernel
theorem dX7_token_113 : decode cX7_token 113 = .ok (.if_icmp .ne 69, 3) := by decide +kernel
theorem dX7_token_116 : decode cX7_token 116 = .ok (.aload_n 0, 1) := by decide +kernel
theorem dX7_token_117 : decode cX7_token 117 = .ok (.iload 9, 2) := by decide +kernel
theorem dX7_token_119 : decode cX7_token 119 = .ok (.iconst 2, 1) := by decide +kernel
theorem dX7_token_120 : decode cX7_token 120 = .ok (.invokevirtual 60, 3) := by decide +kernel
theorem dX7_token_123 : decode cX7_token 123 = .ok (.iload 8, 2) := by decide +kernel
theorem dX7_token_125 : decode cX7_token 125 = .ok (.if_icmp .ge 13, 3) := by decide +kernel
theorem dX7_token_128 : decode cX7_token 128 = .ok (.aload_n 0, 1) := by decide +kernel
theorem dX7_token_129 : decode cX7_token 129 = .ok (.iload 9, 2) := by decide +kernel
theorem dX7_token_131 : decode cX7_token 131 = .ok (.iconst 2, 1) := by decide +kernel
theorem dX7_token_132 : decode cX7_token 132 = .ok (.invokevirtual 60, 3) := by decide +kernel
theorem dX7_token_135 : decode cX7_token 135 = .ok (.goto 5, 3) := by decide +kernel
theorem dX7_token_138 : decode cX7_token 138 = .ok (.iload 8, 2) := by decide +kernel
theorem dX7_token_140 : decode cX7_token 140 = .ok (.istore 10, 2) := by decide +kernel
theorem dX7_token_142 : decode cX7_token 142 = .ok (.aload_n 0, 1) := by decide +kernel
theorem dX7_token_143 : decode cX7_token 143 = .ok (.getfield 7, 3) := by decide +kernel
theorem dX7_token_146 : decode cX7_token 146 = .ok (.bipush 80, 2) := by decide +kernel
theorem dX7_token_148 : decode cX7_token 148 = .ok (.iconst 3, 1) := by decide +kernel
theorem dX7_token_149 : decode cX7_token 149 = .ok (.iload 9, 2) := by decide +kernel
theorem dX7_token_151 : decode cX7_token 151 = .ok (.imul, 1) := by decide +kernel
theorem dX7_token_152 : decode cX7_token 152 = .ok (.iadd, 1) := by decide +kernel
theorem dX7_token_153 : decode cX7_token 153 = .ok (.iconst 2, 1) := by decide +kernel
theorem dX7_token_154 : decode cX7_token 154 = .ok (.iadd, 1) := by decide +kernel
theorem dX7_token_155 : decode cX7_token 155 = .ok (.dup2, 1) := by decide +kernel
theorem dX7_token_156 : decode cX7_token 156 = .ok (.iaload, 1) := by decide +kernel
theorem dX7_token_157 : decode cX7_token 157 = .ok (.iload 10, 2) := by decide +kernel
theorem dX7_token_159 : decode cX7_token 159 = .ok (.isub, 1) := by decide +kernel
theorem dX7_token_160 : decode cX7_token 160 = .ok (.iastore, 1) := by decide +kernel
theorem dX7_token_161 : decode cX7_token 161 = .ok (.aload_n 0, 1) := by decide +kernel
theorem dX7_token_162 : decode cX7_token 162 = .ok (.aload_n 0, 1) := by decide +kernel
theorem dX7_token_163 : decode cX7_token 163 = .ok (.iload 9, 2) := by decide +kernel
theorem dX7_token_165 : decode cX7_token 165 = .ok (.iconst 0, 1) := by decide +kernel
theorem dX7_token_166 : decode cX7_token 166 = .ok (.invokevirtual 60, 3) := by decide +kernel
theorem dX7_token_169 : decode cX7_token 169 = .ok (.iconst 4, 1) := by decide +kernel
theorem dX7_token_170 : decode cX7_token 170 = .ok (.iload 10, 2) := by decide +kernel
theorem dX7_token_172 : decode cX7_token 172 = .ok (.invokevirtual 71, 3) := by decide +kernel
theorem dX7_token_175 : decode cX7_token 175 = .ok (.iload 8, 2) := by decide +kernel
theorem dX7_token_177 : decode cX7_token 177 = .ok (.iload 10, 2) := by decide +kernel
theorem dX7_token_179 : decode cX7_token 179 = .ok (.isub, 1) := by decide +kernel
theorem dX7_token_180 : decode cX7_token 180 = .ok (.istore 8, 2) := by decide +kernel
theorem dX7_token_182 : decode cX7_token 182 = .ok (.iinc 9 1, 3) := by decide +kernel
theorem dX7_token_185 : decode cX7_token 185 = .ok (.goto (-93), 3) := by decide +kernel
theorem dX7_token_188 : decode cX7_token 188 = .ok (.aload_n 0, 1) := by decide +kernel
theorem dX7_token_189 : decode cX7_token 189 = .ok (.invokevirtual 75, 3) := by decide +kernel
theorem dX7_token_192 : decode cX7_token 192 = .ok (.aload_n 0, 1) := by decide +kernel
theorem dX7_token_193 : decode cX7_token 193 = .ok (.iload_n 1, 1) := by decide +kernel
theorem dX7_token_194 : decode cX7_token 194 = .ok (.iconst 4, 1) := by decide +kernel
theorem dX7_token_195 : decode cX7_token 195 = .ok (.iload 5, 2) := by decide +kernel
theorem dX7_token_197 : decode cX7_token 197 = .ok (.iload 7, 2) := by decide +kernel
theorem dX7_token_199 : decode cX7_token 199 = .ok (.isub, 1) := by decide +kernel
theorem dX7_token_200 : decode cX7_token 200 = .ok (.invokevirtual 71, 3) := by decide +kernel
theorem dX7_token_203 : decode cX7_token 203 = .ok (.aload_n 0, 1) := by decide +kernel
theorem dX7_token_204 : decode cX7_token 204 = .ok (.getfield 7, 3) := by decide +kernel
theorem dX7_token_207 : decode cX7_token 207 = .ok (.sipush 187, 3) := by decide +kernel
theorem dX7_token_210 : decode cX7_token 210 = .ok (.dup2, 1) := by decide +kernel
theorem dX7_token_211 : decode cX7_token 211 = .ok (.iaload, 1) := by decide +kernel
theorem dX7_token_212 : decode cX7_token 212 = .ok (.iload_n 2, 1) := by decide +kernel
theorem dX7_token_213 : decode cX7_token 213 = .ok (.iadd, 1) := by decide +kernel
theorem dX7_token_214 : decode cX7_token 214 = .ok (.iastore, 1) := by decide +kernel
theorem dX7_token_215 : decode cX7_token 215 = .ok (.aload_n 0, 1) := by decide +kernel
theorem dX7_token_216 : decode cX7_token 216 = .ok (.getfield 7, 3) := by decide +kernel
theorem dX7_token_219 : decode cX7_token 219 = .ok (.sipush 188, 3) := by decide +kernel
theorem dX7_token_222 : decode cX7_token 222 = .ok (.dup2, 1) := by decide +kernel
theorem dX7_token_223 : decode cX7_token 223 = .ok (.iaload, 1) := by decide +kernel
theorem dX7_token_224 : decode cX7_token 224 = .ok (.iload 4, 2) := by decide +kernel
theorem dX7_token_226 : decode cX7_token 226 = .ok (.iadd, 1) := by decide +kernel
theorem dX7_token_227 : decode cX7_token 227 = .ok (.iastore, 1) := by decide +kernel
theorem dX7_token_228 : decode cX7_token 228 = .ok (.return_, 1) := by decide +kernel
theorem dX7_buy_0 : decode cX7_buy 0 = .ok (.aload_n 0, 1) := by decide +kernel
theorem dX7_buy_1 : decode cX7_buy 1 = .ok (.iload_n 1, 1) := by decide +kernel
theorem dX7_buy_2 : decode cX7_buy 2 = .ok (.invokevirtual 48, 3) := by decide +kernel
theorem dX7_buy_5 : decode cX7_buy 5 = .ok (.ifCond .eq 14, 3) := by decide +kernel
theorem dX7_buy_8 : decode cX7_buy 8 = .ok (.iload_n 2, 1) := by decide +kernel
theorem dX7_buy_9 : decode cX7_buy 9 = .ok (.iconst 1, 1) := by decide +kernel
theorem dX7_buy_10 : decode cX7_buy 10 = .ok (.sipush 500, 3) := by decide +kernel
theorem dX7_buy_13 : decode cX7_buy 13 = .ok (.invokestatic 31, 3) := by decide +kernel
theorem dX7_buy_16 : decode cX7_buy 16 = .ok (.ifCond .ne 6, 3) := by decide +kernel
theorem dX7_buy_19 : decode cX7_buy 19 = .ok (.ldc 43, 2) := by decide +kernel
theorem dX7_buy_21 : decode cX7_buy 21 = .ok (.ireturn, 1) := by decide +kernel
theorem dX7_buy_22 : decode cX7_buy 22 = .ok (.aload_n 0, 1) := by decide +kernel
theorem dX7_buy_23 : decode cX7_buy 23 = .ok (.invokevirtual 45, 3) := by decide +kernel
theorem dX7_buy_26 : decode cX7_buy 26 = .ok (.aload_n 0, 1) := by decide +kernel
theorem dX7_buy_27 : decode cX7_buy 27 = .ok (.iload_n 1, 1) := by decide +kernel
theorem dX7_buy_28 : decode cX7_buy 28 = .ok (.iload_n 2, 1) := by decide +kernel
theorem dX7_buy_29 : decode cX7_buy 29 = .ok (.invokevirtual 78, 3) := by decide +kernel
theorem dX7_buy_32 : decode cX7_buy 32 = .ok (.aload_n 0, 1) := by decide +kernel
theorem dX7_buy_33 : decode cX7_buy 33 = .ok (.iload_n 1, 1) := by decide +kernel
theorem dX7_buy_34 : decode cX7_buy 34 = .ok (.iconst 4, 1) := by decide +kernel
theorem dX7_buy_35 : decode cX7_buy 35 = .ok (.invokevirtual 56, 3) := by decide +kernel
theorem dX7_buy_38 : decode cX7_buy 38 = .ok (.ireturn, 1) := by decide +kernel
theorem dX7_lend_0 : decode cX7_lend 0 = .ok (.aload_n 0, 1) := by decide +kernel
theorem dX7_lend_1 : decode cX7_lend 1 = .ok (.iload_n 1, 1) := by decide +kernel
theorem dX7_lend_2 : decode cX7_lend 2 = .ok (.invokevirtual 48, 3) := by decide +kernel
theorem dX7_lend_5 : decode cX7_lend 5 = .ok (.ifCond .eq 27, 3) := by decide +kernel
theorem dX7_lend_8 : decode cX7_lend 8 = .ok (.aload_n 0, 1) := by decide +kernel
theorem dX7_lend_9 : decode cX7_lend 9 = .ok (.iload_n 2, 1) := by decide +kernel
theorem dX7_lend_10 : decode cX7_lend 10 = .ok (.invokevirtual 48, 3) := by decide +kernel
theorem dX7_lend_13 : decode cX7_lend 13 = .ok (.ifCond .eq 19, 3) := by decide +kernel
theorem dX7_lend_16 : decode cX7_lend 16 = .ok (.iload_n 1, 1) := by decide +kernel
theorem dX7_lend_17 : decode cX7_lend 17 = .ok (.iload_n 2, 1) := by decide +kernel
theorem dX7_lend_18 : decode cX7_lend 18 = .ok (.if_icmp .eq 14, 3) := by decide +kernel
theorem dX7_lend_21 : decode cX7_lend 21 = .ok (.iload_n 3, 1) := by decide +kernel
theorem dX7_lend_22 : decode cX7_lend 22 = .ok (.iconst 1, 1) := by decide +kernel
theorem dX7_lend_23 : decode cX7_lend 23 = .ok (.sipush 200, 3) := by decide +kernel
theorem dX7_lend_26 : decode cX7_lend 26 = .ok (.invokestatic 31, 3) := by decide +kernel
theorem dX7_lend_29 : decode cX7_lend 29 = .ok (.ifCond .ne 6, 3) := by decide +kernel
theorem dX7_lend_32 : decode cX7_lend 32 = .ok (.ldc 43, 2) := by decide +kernel
theorem dX7_lend_34 : decode cX7_lend 34 = .ok (.ireturn, 1) := by decide +kernel
theorem dX7_lend_35 : decode cX7_lend 35 = .ok (.aload_n 0, 1) := by decide +kernel
theorem dX7_lend_36 : decode cX7_lend 36 = .ok (.iload_n 1, 1) := by decide +kernel
theorem dX7_lend_37 : decode cX7_lend 37 = .ok (.iconst 4, 1) := by decide +kernel
theorem dX7_lend_38 : decode cX7_lend 38 = .ok (.invokevirtual 56, 3) := by decide +kernel
theorem dX7_lend_41 : decode cX7_lend 41 = .ok (.iload_n 3, 1) := by decide +kernel
theorem dX7_lend_42 : decode cX7_lend 42 = .ok (.if_icmp .ge 6, 3) := by decide +kernel
theorem dX7_lend_45 : decode cX7_lend 45 = .ok (.ldc 66, 2) := by decide +kernel
theorem dX7_lend_47 : decode cX7_lend 47 = .ok (.ireturn, 1) := by decide +kernel
theorem dX7_lend_48 : decode cX7_lend 48 = .ok (.aload_n 0, 1) := by decide +kernel
theorem dX7_lend_49 : decode cX7_lend 49 = .ok (.getfield 7, 3) := by decide +kernel
theorem dX7_lend_52 : decode cX7_lend 52 = .ok (.sipush 173, 3) := by decide +kernel
theorem dX7_lend_55 : decode cX7_lend 55 = .ok (.iaload, 1) := by decide +kernel
theorem dX7_lend_56 : decode cX7_lend 56 = .ok (.bipush 12, 2) := by decide +kernel
theorem dX7_lend_58 : decode cX7_lend 58 = .ok (.if_icmp .ne 6, 3) := by decide +kernel
theorem dX7_lend_61 : decode cX7_lend 61 = .ok (.ldc 44, 2) := by decide +kernel
theorem dX7_lend_63 : decode cX7_lend 63 = .ok (.ireturn, 1) := by decide +kernel
theorem dX7_lend_64 : decode cX7_lend 64 = .ok (.aload_n 0, 1) := by decide +kernel
theorem dX7_lend_65 : decode cX7_lend 65 = .ok (.invokevirtual 45, 3) := by decide +kernel
theorem dX7_lend_68 : decode cX7_lend 68 = .ok (.aload_n 0, 1) := by decide +kernel
theorem dX7_lend_69 : decode cX7_lend 69 = .ok (.iload_n 1, 1) := by decide +kernel
theorem dX7_lend_70 : decode cX7_lend 70 = .ok (.iconst 4, 1) := by decide +kernel
theorem dX7_lend_71 : decode cX7_lend 71 = .ok (.iload_n 3, 1) := by decide +kernel
theorem dX7_lend_72 : decode cX7_lend 72 = .ok (.ineg, 1) := by decide +kernel
theorem dX7_lend_73 : decode cX7_lend 73 = .ok (.invokevirtual 71, 3) := by decide +kernel
theorem dX7_lend_76 : decode cX7_lend 76 = .ok (.aload_n 0, 1) := by decide +kernel
theorem dX7_lend_77 : decode cX7_lend 77 = .ok (.iload_n 2, 1) := by decide +kernel
theorem dX7_lend_78 : decode cX7_lend 78 = .ok (.iconst 4, 1) := by decide +kernel
theorem dX7_lend_79 : decode cX7_lend 79 = .ok (.iload_n 3, 1) := by decide +kernel
theorem dX7_lend_80 : decode cX7_lend 80 = .ok (.invokevirtual 71, 3) := by decide +kernel
theorem dX7_lend_83 : decode cX7_lend 83 = .ok (.bipush 80, 2) := by decide +kernel
theorem dX7_lend_85 : decode cX7_lend 85 = .ok (.iconst 3, 1) := by decide +kernel
theorem dX7_lend_86 : decode cX7_lend 86 = .ok (.aload_n 0, 1) := by decide +kernel
theorem dX7_lend_87 : decode cX7_lend 87 = .ok (.getfield 7, 3) := by decide +kernel
theorem dX7_lend_90 : decode cX7_lend 90 = .ok (.sipush 173, 3) := by decide +kernel
theorem dX7_lend_93 : decode cX7_lend 93 = .ok (.iaload, 1) := by decide +kernel
theorem dX7_lend_94 : decode cX7_lend 94 = .ok (.imul, 1) := by decide +kernel
theorem dX7_lend_95 : decode cX7_lend 95 = .ok (.iadd, 1) := by decide +kernel
theorem dX7_lend_96 : decode cX7_lend 96 = .ok (.istore 4, 2) := by decide +kernel
theorem dX7_lend_98 : decode cX7_lend 98 = .ok (.aload_n 0, 1) := by decide +kernel
theorem dX7_lend_99 : decode cX7_lend 99 = .ok (.getfield 7, 3) := by decide +kernel
theorem dX7_lend_102 : decode cX7_lend 102 = .ok (.iload 4, 2) := by decide +kernel
theorem dX7_lend_104 : decode cX7_lend 104 = .ok (.iload_n 1, 1) := by decide +kernel
theorem dX7_lend_105 : decode cX7_lend 105 = .ok (.iastore, 1) := by decide +kernel
theorem dX7_lend_106 : decode cX7_lend 106 = .ok (.aload_n 0, 1) := by decide +kernel
theorem dX7_lend_107 : decode cX7_lend 107 = .ok (.getfield 7, 3) := by decide +kernel
theorem dX7_lend_110 : decode cX7_lend 110 = .ok (.iload 4, 2) := by decide +kernel
theorem dX7_lend_112 : decode cX7_lend 112 = .ok (.iconst 1, 1) := by decide +kernel
theorem dX7_lend_113 : decode cX7_lend 113 = .ok (.iadd, 1) := by decide +kernel
theorem dX7_lend_114 : decode cX7_lend 114 = .ok (.iload_n 2, 1) := by decide +kernel
theorem dX7_lend_115 : decode cX7_lend 115 = .ok (.iastore, 1) := by decide +kernel
theorem dX7_lend_116 : decode cX7_lend 116 = .ok (.aload_n 0, 1) := by decide +kernel
theorem dX7_lend_117 : decode cX7_lend 117 = .ok (.getfield 7, 3) := by decide +kernel
theorem dX7_lend_120 : decode cX7_lend 120 = .ok (.iload 4, 2) := by decide +kernel
theorem dX7_lend_122 : decode cX7_lend 122 = .ok (.iconst 2, 1) := by decide +kernel
theorem dX7_lend_123 : decode cX7_lend 123 = .ok (.iadd, 1) := by decide +kernel
theorem dX7_lend_124 : decode cX7_lend 124 = .ok (.iload_n 3, 1) := by decide +kernel
theorem dX7_lend_125 : decode cX7_lend 125 = .ok (.iastore, 1) := by decide +kernel
theorem dX7_lend_126 : decode cX7_lend 126 = .ok (.aload_n 0, 1) := by decide +kernel
theorem dX7_lend_127 : decode cX7_lend 127 = .ok (.getfield 7, 3) := by decide +kernel
theorem dX7_lend_130 : decode cX7_lend 130 = .ok (.sipush 173, 3) := by decide +kernel
theorem dX7_lend_133 : decode cX7_lend 133 = .ok (.dup2, 1) := by decide +kernel
theorem dX7_lend_134 : decode cX7_lend 134 = .ok (.iaload, 1) := by decide +kernel
theorem dX7_lend_135 : decode cX7_lend 135 = .ok (.iconst 1, 1) := by decide +kernel
theorem dX7_lend_136 : decode cX7_lend 136 = .ok (.iadd, 1) := by decide +kernel
theorem dX7_lend_137 : decode cX7_lend 137 = .ok (.iastore, 1) := by decide +kernel
theorem dX7_lend_138 : decode cX7_lend 138 = .ok (.aload_n 0, 1) := by decide +kernel
theorem dX7_lend_139 : decode cX7_lend 139 = .ok (.getfield 7, 3) := by decide +kernel
theorem dX7_lend_142 : decode cX7_lend 142 = .ok (.sipush 173, 3) := by decide +kernel
theorem dX7_lend_145 : decode cX7_lend 145 = .ok (.iaload, 1) := by decide +kernel
theorem dX7_lend_146 : decode cX7_lend 146 = .ok (.ireturn, 1) := by decide +kernel
theorem dX7_isLoan_0 : decode cX7_isLoan 0 = .ok (.iload_n 1, 1) := by decide +kernel
theorem dX7_isLoan_1 : decode cX7_isLoan 1 = .ok (.iconst 0, 1) := by decide +kernel
theorem dX7_isLoan_2 : decode cX7_isLoan 2 = .ok (.aload_n 0, 1) := by decide +kernel
theorem dX7_isLoan_3 : decode cX7_isLoan 3 = .ok (.getfield 7, 3) := by decide +kernel
theorem dX7_isLoan_6 : decode cX7_isLoan 6 = .ok (.sipush 173, 3) := by decide +kernel
theorem dX7_isLoan_9 : decode cX7_isLoan 9 = .ok (.iaload, 1) := by decide +kernel
theorem dX7_isLoan_10 : decode cX7_isLoan 10 = .ok (.iconst 1, 1) := by decide +kernel
theorem dX7_isLoan_11 : decode cX7_isLoan 11 = .ok (.isub, 1) := by decide +kernel
theorem dX7_isLoan_12 : decode cX7_isLoan 12 = .ok (.invokestatic 31, 3) := by decide +kernel
theorem dX7_isLoan_15 : decode cX7_isLoan 15 = .ok (.ireturn, 1) := by decide +kernel
theorem dX7_remit_0 : decode cX7_remit 0 = .ok (.aload_n 0, 1) := by decide +kernel
theorem dX7_remit_1 : decode cX7_remit 1 = .ok (.iload_n 1, 1) := by decide +kernel
theorem dX7_remit_2 : decode cX7_remit 2 = .ok (.invokevirtual 82, 3) := by decide +kernel
theorem dX7_remit_5 : decode cX7_remit 5 = .ok (.ifCond .ne 6, 3) := by decide +kernel
theorem dX7_remit_8 : decode cX7_remit 8 = .ok (.ldc 43, 2) := by decide +kernel
theorem dX7_remit_10 : decode cX7_remit 10 = .ok (.ireturn, 1) := by decide +kernel
theorem dX7_remit_11 : decode cX7_remit 11 = .ok (.aload_n 0, 1) := by decide +kernel
theorem dX7_remit_12 : decode cX7_remit 12 = .ok (.invokevirtual 45, 3) := by decide +kernel
theorem dX7_remit_15 : decode cX7_remit 15 = .ok (.aload_n 0, 1) := by decide +kernel
theorem dX7_remit_16 : decode cX7_remit 16 = .ok (.iload_n 1, 1) := by decide +kernel
theorem dX7_remit_17 : decode cX7_remit 17 = .ok (.iconst 2, 1) := by decide +kernel
theorem dX7_remit_18 : decode cX7_remit 18 = .ok (.invokevirtual 60, 3) := by decide +kernel
theorem dX7_remit_21 : decode cX7_remit 21 = .ok (.istore_n 2, 1) := by decide +kernel
theorem dX7_remit_22 : decode cX7_remit 22 = .ok (.aload_n 0, 1) := by decide +kernel
theorem dX7_remit_23 : decode cX7_remit 23 = .ok (.getfield 7, 3) := by decide +kernel
theorem dX7_remit_26 : decode cX7_remit 26 = .ok (.bipush 80, 2) := by decide +kernel
theorem dX7_remit_28 : decode cX7_remit 28 = .ok (.iconst 3, 1) := by decide +kernel
theorem dX7_remit_29 : decode cX7_remit 29 = .ok (.iload_n 1, 1) := by decide +kernel
theorem dX7_remit_30 : decode cX7_remit 30 = .ok (.imul, 1) := by decide +kernel
theorem dX7_remit_31 : decode cX7_remit 31 = .ok (.iadd, 1) := by decide +kernel
theorem dX7_remit_32 : decode cX7_remit 32 = .ok (.iconst 2, 1) := by decide +kernel
theorem dX7_remit_33 : decode cX7_remit 33 = .ok (.iadd, 1) := by decide +kernel
theorem dX7_remit_34 : decode cX7_remit 34 = .ok (.iconst 0, 1) := by decide +kernel
theorem dX7_remit_35 : decode cX7_remit 35 = .ok (.iastore, 1) := by decide +kernel
theorem dX7_remit_36 : decode cX7_remit 36 = .ok (.aload_n 0, 1) := by decide +kernel
theorem dX7_remit_37 : decode cX7_remit 37 = .ok (.invokevirtual 75, 3) := by decide +kernel
theorem dX7_remit_40 : decode cX7_remit 40 = .ok (.iload_n 2, 1) := by decide +kernel
theorem dX7_remit_41 : decode cX7_remit 41 = .ok (.ireturn, 1) := by decide +kernel
theorem dX7_against_0 : decode cX7_against 0 = .ok (.iload_n 1, 1) := by decide +kernel
theorem dX7_against_1 : decode cX7_against 1 = .ok (.iconst 1, 1) := by decide +kernel
theorem dX7_against_2 : decode cX7_against 2 = .ok (.iadd, 1) := by decide +kernel
theorem dX7_against_3 : decode cX7_against 3 = .ok (.istore_n 2, 1) := by decide +kernel
theorem dX7_against_4 : decode cX7_against 4 = .ok (.iload_n 2, 1) := by decide +kernel
theorem dX7_against_5 : decode cX7_against 5 = .ok (.aload_n 0, 1) := by decide +kernel
theorem dX7_against_6 : decode cX7_against 6 = .ok (.getfield 7, 3) := by decide +kernel
theorem dX7_against_9 : decode cX7_against 9 = .ok (.sipush 173, 3) := by decide +kernel
theorem dX7_against_12 : decode cX7_against 12 = .ok (.iaload, 1) := by decide +kernel
theorem dX7_against_13 : decode cX7_against 13 = .ok (.if_icmp .ge 41, 3) := by decide +kernel
theorem dX7_against_16 : decode cX7_against 16 = .ok (.aload_n 0, 1) := by decide +kernel
theorem dX7_against_17 : decode cX7_against 17 = .ok (.iload_n 2, 1) := by decide +kernel
theorem dX7_against_18 : decode cX7_against 18 = .ok (.iconst 0, 1) := by decide +kernel
theorem dX7_against_19 : decode cX7_against 19 = .ok (.invokevirtual 60, 3) := by decide +kernel
theorem dX7_against_22 : decode cX7_against 22 = .ok (.aload_n 0, 1) := by decide +kernel
theorem dX7_against_23 : decode cX7_against 23 = .ok (.iload_n 1, 1) := by decide +kernel
theorem dX7_against_24 : decode cX7_against 24 = .ok (.iconst 1, 1) := by decide +kernel
theorem dX7_against_25 : decode cX7_against 25 = .ok (.invokevirtual 60, 3) := by decide +kernel
theorem dX7_against_28 : decode cX7_against 28 = .ok (.if_icmp .ne 20, 3) := by decide +kernel
theorem dX7_against_31 : decode cX7_against 31 = .ok (.aload_n 0, 1) := by decide +kernel
theorem dX7_against_32 : decode cX7_against 32 = .ok (.iload_n 2, 1) := by decide +kernel
theorem dX7_against_33 : decode cX7_against 33 = .ok (.iconst 1, 1) := by decide +kernel
theorem dX7_against_34 : decode cX7_against 34 = .ok (.invokevirtual 60, 3) := by decide +kernel
theorem dX7_against_37 : decode cX7_against 37 = .ok (.aload_n 0, 1) := by decide +kernel
theorem dX7_against_38 : decode cX7_against 38 = .ok (.iload_n 1, 1) := by decide +kernel
theorem dX7_against_39 : decode cX7_against 39 = .ok (.iconst 0, 1) := by decide +kernel
theorem dX7_against_40 : decode cX7_against 40 = .ok (.invokevirtual 60, 3) := by decide +kernel
theorem dX7_against_43 : decode cX7_against 43 = .ok (.if_icmp .ne 5, 3) := by decide +kernel
theorem dX7_against_46 : decode cX7_against 46 = .ok (.iload_n 2, 1) := by decide +kernel
theorem dX7_against_47 : decode cX7_against 47 = .ok (.ireturn, 1) := by decide +kernel
theorem dX7_against_48 : decode cX7_against 48 = .ok (.iinc 2 1, 3) := by decide +kernel
theorem dX7_against_51 : decode cX7_against 51 = .ok (.goto (-47), 3) := by decide +kernel
theorem dX7_against_54 : decode cX7_against 54 = .ok (.ldc 85, 2) := by decide +kernel
theorem dX7_against_56 : decode cX7_against 56 = .ok (.ireturn, 1) := by decide +kernel
theorem dX7_netOnce_0 : decode cX7_netOnce 0 = .ok (.iconst 0, 1) := by decide +kernel
theorem dX7_netOnce_1 : decode cX7_netOnce 1 = .ok (.istore_n 1, 1) := by decide +kernel
theorem dX7_netOnce_2 : decode cX7_netOnce 2 = .ok (.iload_n 1, 1) := by decide +kernel
theorem dX7_netOnce_3 : decode cX7_netOnce 3 = .ok (.aload_n 0, 1) := by decide +kernel
theorem dX7_netOnce_4 : decode cX7_netOnce 4 = .ok (.getfield 7, 3) := by decide +kernel
theorem dX7_netOnce_7 : decode cX7_netOnce 7 = .ok (.sipush 173, 3) := by decide +kernel
theorem dX7_netOnce_10 : decode cX7_netOnce 10 = .ok (.iaload, 1) := by decide +kernel
theorem dX7_netOnce_11 : decode cX7_netOnce 11 = .ok (.if_icmp .ge 92, 3) := by decide +kernel
theorem dX7_netOnce_14 : decode cX7_netOnce 14 = .ok (.aload_n 0, 1) := by decide +kernel
theorem dX7_netOnce_15 : decode cX7_netOnce 15 = .ok (.iload_n 1, 1) := by decide +kernel
theorem dX7_netOnce_16 : decode cX7_netOnce 16 = .ok (.invokevirtual 86, 3) := by decide +kernel
theorem dX7_netOnce_19 : decode cX7_netOnce 19 = .ok (.istore_n 2, 1) := by decide +kernel
theorem dX7_netOnce_20 : decode cX7_netOnce 20 = .ok (.iload_n 2, 1) := by decide +kernel
theorem dX7_netOnce_21 : decode cX7_netOnce 21 = .ok (.ldc 85, 2) := by decide +kernel
theorem dX7_netOnce_23 : decode cX7_netOnce 23 = .ok (.if_icmp .eq 74, 3) := by decide +kernel
theorem dX7_netOnce_26 : decode cX7_netOnce 26 = .ok (.aload_n 0, 1) := by decide +kernel
theorem dX7_netOnce_27 : decode cX7_netOnce 27 = .ok (.iload_n 1, 1) := by decide +kernel
theorem dX7_netOnce_28 : decode cX7_netOnce 28 = .ok (.iconst 2, 1) := by decide +kernel
theorem dX7_netOnce_29 : decode cX7_netOnce 29 = .ok (.invokevirtual 60, 3) := by decide +kernel
theorem dX7_netOnce_32 : decode cX7_netOnce 32 = .ok (.aload_n 0, 1) := by decide +kernel
theorem dX7_netOnce_33 : decode cX7_netOnce 33 = .ok (.iload_n 2, 1) := by decide +kernel
theorem dX7_netOnce_34 : decode cX7_netOnce 34 = .ok (.iconst 2, 1) := by decide +kernel
theorem dX7_netOnce_35 : decode cX7_netOnce 35 = .ok (.invokevirtual 60, 3) := by decide +kernel
theorem dX7_netOnce_38 : decode cX7_netOnce 38 = .ok (.if_icmp .ge 12, 3) := by decide +kernel
theorem dX7_netOnce_41 : decode cX7_netOnce 41 = .ok (.aload_n 0, 1) := by decide +kernel
theorem dX7_netOnce_42 : decode cX7_netOnce 42 = .ok (.iload_n 1, 1) := by decide +kernel
theorem dX7_netOnce_43 : decode cX7_netOnce 43 = .ok (.iconst 2, 1) := by decide +kernel
theorem dX7_netOnce_44 : decode cX7_netOnce 44 = .ok (.invokevirtual 60, 3) := by decide +kernel
theorem dX7_netOnce_47 : decode cX7_netOnce 47 = .ok (.goto 9, 3) := by decide +kernel
theorem dX7_netOnce_50 : decode cX7_netOnce 50 = .ok (.aload_n 0, 1) := by decide +kernel
theorem dX7_netOnce_51 : decode cX7_netOnce 51 = .ok (.iload_n 2, 1) := by decide +kernel
theorem dX7_netOnce_52 : decode cX7_netOnce 52 = .ok (.iconst 2, 1) := by decide +kernel
theorem dX7_netOnce_53 : decode cX7_netOnce 53 = .ok (.invokevirtual 60, 3) := by decide +kernel
theorem dX7_netOnce_56 : decode cX7_netOnce 56 = .ok (.istore_n 3, 1) := by decide +kernel
theorem dX7_netOnce_57 : decode cX7_netOnce 57 = .ok (.aload_n 0, 1) := by decide +kernel
theorem dX7_netOnce_58 : decode cX7_netOnce 58 = .ok (.getfield 7, 3) := by decide +kernel
theorem dX7_netOnce_61 : decode cX7_netOnce 61 = .ok (.bipush 80, 2) := by decide +kernel
theorem dX7_netOnce_63 : decode cX7_netOnce 63 = .ok (.iconst 3, 1) := by decide +kernel
theorem dX7_netOnce_64 : decode cX7_netOnce 64 = .ok (.iload_n 1, 1) := by decide +kernel
theorem dX7_netOnce_65 : decode cX7_netOnce 65 = .ok (.imul, 1) := by decide +kernel
theorem dX7_netOnce_66 : decode cX7_netOnce 66 = .ok (.iadd, 1) := by decide +kernel
theorem dX7_netOnce_67 : decode cX7_netOnce 67 = .ok (.iconst 2, 1) := by decide +kernel
theorem dX7_netOnce_68 : decode cX7_netOnce 68 = .ok (.iadd, 1) := by decide +kernel
theorem dX7_netOnce_69 : decode cX7_netOnce 69 = .ok (.dup2, 1) := by decide +kernel
theorem dX7_netOnce_70 : decode cX7_netOnce 70 = .ok (.iaload, 1) := by decide +kernel
theorem dX7_netOnce_71 : decode cX7_netOnce 71 = .ok (.iload_n 3, 1) := by decide +kernel
theorem dX7_netOnce_72 : decode cX7_netOnce 72 = .ok (.isub, 1) := by decide +kernel
theorem dX7_netOnce_73 : decode cX7_netOnce 73 = .ok (.iastore, 1) := by decide +kernel
theorem dX7_netOnce_74 : decode cX7_netOnce 74 = .ok (.aload_n 0, 1) := by decide +kernel
theorem dX7_netOnce_75 : decode cX7_netOnce 75 = .ok (.getfield 7, 3) := by decide +kernel
theorem dX7_netOnce_78 : decode cX7_netOnce 78 = .ok (.bipush 80, 2) := by decide +kernel
theorem dX7_netOnce_80 : decode cX7_netOnce 80 = .ok (.iconst 3, 1) := by decide +kernel
theorem dX7_netOnce_81 : decode cX7_netOnce 81 = .ok (.iload_n 2, 1) := by decide +kernel
theorem dX7_netOnce_82 : decode cX7_netOnce 82 = .ok (.imul, 1) := by decide +kernel
theorem dX7_netOnce_83 : decode cX7_netOnce 83 = .ok (.iadd, 1) := by decide +kernel
theorem dX7_netOnce_84 : decode cX7_netOnce 84 = .ok (.iconst 2, 1) := by decide +kernel
theorem dX7_netOnce_85 : decode cX7_netOnce 85 = .ok (.iadd, 1) := by decide +kernel
theorem dX7_netOnce_86 : decode cX7_netOnce 86 = .ok (.dup2, 1) := by decide +kernel
theorem dX7_netOnce_87 : decode cX7_netOnce 87 = .ok (.iaload, 1) := by decide +kernel
theorem dX7_netOnce_88 : decode cX7_netOnce 88 = .ok (.iload_n 3, 1) := by decide +kernel
theorem dX7_netOnce_89 : decode cX7_netOnce 89 = .ok (.isub, 1) := by decide +kernel
theorem dX7_netOnce_90 : decode cX7_netOnce 90 = .ok (.iastore, 1) := by decide +kernel
theorem dX7_netOnce_91 : decode cX7_netOnce 91 = .ok (.aload_n 0, 1) := by decide +kernel
theorem dX7_netOnce_92 : decode cX7_netOnce 92 = .ok (.invokevirtual 75, 3) := by decide +kernel
theorem dX7_netOnce_95 : decode cX7_netOnce 95 = .ok (.iload_n 3, 1) := by decide +kernel
theorem dX7_netOnce_96 : decode cX7_netOnce 96 = .ok (.ireturn, 1) := by decide +kernel
theorem dX7_netOnce_97 : decode cX7_netOnce 97 = .ok (.iinc 1 1, 3) := by decide +kernel
theorem dX7_netOnce_100 : decode cX7_netOnce 100 = .ok (.goto (-98), 3) := by decide +kernel
theorem dX7_netOnce_103 : decode cX7_netOnce 103 = .ok (.iconst 0, 1) := by decide +kernel
theorem dX7_netOnce_104 : decode cX7_netOnce 104 = .ok (.ireturn, 1) := by decide +kernel
theorem dX7_net_0 : decode cX7_net 0 = .ok (.aload_n 0, 1) := by decide +kernel
theorem dX7_net_1 : decode cX7_net 1 = .ok (.invokevirtual 45, 3) := by decide +kernel
theorem dX7_net_4 : decode cX7_net 4 = .ok (.iconst 0, 1) := by decide +kernel
theorem dX7_net_5 : decode cX7_net 5 = .ok (.istore_n 1, 1) := by decide +kernel
theorem dX7_net_6 : decode cX7_net 6 = .ok (.aload_n 0, 1) := by decide +kernel
theorem dX7_net_7 : decode cX7_net 7 = .ok (.invokevirtual 89, 3) := by decide +kernel
theorem dX7_net_10 : decode cX7_net 10 = .ok (.istore_n 2, 1) := by decide +kernel
theorem dX7_net_11 : decode cX7_net 11 = .ok (.iload_n 2, 1) := by decide +kernel
theorem dX7_net_12 : decode cX7_net 12 = .ok (.ifCond .le 15, 3) := by decide +kernel
theorem dX7_net_15 : decode cX7_net 15 = .ok (.iload_n 1, 1) := by decide +kernel
theorem dX7_net_16 : decode cX7_net 16 = .ok (.iload_n 2, 1) := by decide +kernel
theorem dX7_net_17 : decode cX7_net 17 = .ok (.iadd, 1) := by decide +kernel
theorem dX7_net_18 : decode cX7_net 18 = .ok (.istore_n 1, 1) := by decide +kernel
theorem dX7_net_19 : decode cX7_net 19 = .ok (.aload_n 0, 1) := by decide +kernel
theorem dX7_net_20 : decode cX7_net 20 = .ok (.invokevirtual 89, 3) := by decide +kernel
theorem dX7_net_23 : decode cX7_net 23 = .ok (.istore_n 2, 1) := by decide +kernel
theorem dX7_net_24 : decode cX7_net 24 = .ok (.goto (-13), 3) := by decide +kernel
theorem dX7_net_27 : decode cX7_net 27 = .ok (.iload_n 1, 1) := by decide +kernel
theorem dX7_net_28 : decode cX7_net 28 = .ok (.ireturn, 1) := by decide +kernel
theorem dX7_isSetting_0 : decode cX7_isSetting 0 = .ok (.iload_n 0, 1) := by decide +kernel
theorem dX7_isSetting_1 : decode cX7_isSetting 1 = .ok (.ifCond .ne 13, 3) := by decide +kernel
theorem dX7_isSetting_4 : decode cX7_isSetting 4 = .ok (.iload_n 1, 1) := by decide +kernel
theorem dX7_isSetting_5 : decode cX7_isSetting 5 = .ok (.iconst 0, 1) := by decide +kernel
theorem dX7_isSetting_6 : decode cX7_isSetting 6 = .ok (.bipush 50, 2) := by decide +kernel
theorem dX7_isSetting_8 : decode cX7_isSetting 8 = .ok (.invokestatic 31, 3) := by decide +kernel
theorem dX7_isSetting_11 : decode cX7_isSetting 11 = .ok (.goto 27, 3) := by decide +kernel
theorem dX7_isSetting_14 : decode cX7_isSetting 14 = .ok (.iload_n 0, 1) := by decide +kernel
theorem dX7_isSetting_15 : decode cX7_isSetting 15 = .ok (.iconst 1, 1) := by decide +kernel
theorem dX7_isSetting_16 : decode cX7_isSetting 16 = .ok (.iconst 3, 1) := by decide +kernel
theorem dX7_isSetting_17 : decode cX7_isSetting 17 = .ok (.invokestatic 31, 3) := by decide +kernel
theorem dX7_isSetting_20 : decode cX7_isSetting 20 = .ok (.ifCond .eq 17, 3) := by decide +kernel
theorem dX7_isSetting_23 : decode cX7_isSetting 23 = .ok (.iload_n 1, 1) := by decide +kernel
theorem dX7_isSetting_24 : decode cX7_isSetting 24 = .ok (.iconst 0, 1) := by decide +kernel
theorem dX7_isSetting_25 : decode cX7_isSetting 25 = .ok (.bipush 100, 2) := by decide +kernel
theorem dX7_isSetting_27 : decode cX7_isSetting 27 = .ok (.invokestatic 31, 3) := by decide +kernel
theorem dX7_isSetting_30 : decode cX7_isSetting 30 = .ok (.ifCond .eq 7, 3) := by decide +kernel
theorem dX7_isSetting_33 : decode cX7_isSetting 33 = .ok (.iconst 1, 1) := by decide +kernel
theorem dX7_isSetting_34 : decode cX7_isSetting 34 = .ok (.goto 4, 3) := by decide +kernel
theorem dX7_isSetting_37 : decode cX7_isSetting 37 = .ok (.iconst 0, 1) := by decide +kernel
theorem dX7_isSetting_38 : decode cX7_isSetting 38 = .ok (.ireturn, 1) := by decide +kernel
theorem dX7_set_0 : decode cX7_set 0 = .ok (.iload_n 1, 1) := by decide +kernel
theorem dX7_set_1 : decode cX7_set 1 = .ok (.iload_n 2, 1) := by decide +kernel
theorem dX7_set_2 : decode cX7_set 2 = .ok (.invokestatic 93, 3) := by decide +kernel
theorem dX7_set_5 : decode cX7_set 5 = .ok (.ifCond .ne 6, 3) := by decide +kernel
theorem dX7_set_8 : decode cX7_set 8 = .ok (.ldc 43, 2) := by decide +kernel
theorem dX7_set_10 : decode cX7_set 10 = .ok (.ireturn, 1) := by decide +kernel
theorem dX7_set_11 : decode cX7_set 11 = .ok (.aload_n 0, 1) := by decide +kernel
theorem dX7_set_12 : decode cX7_set 12 = .ok (.invokevirtual 45, 3) := by decide +kernel
theorem dX7_set_15 : decode cX7_set 15 = .ok (.aload_n 0, 1) := by decide +kernel
theorem dX7_set_16 : decode cX7_set 16 = .ok (.iload_n 1, 1) := by decide +kernel
theorem dX7_set_17 : decode cX7_set 17 = .ok (.invokevirtual 67, 3) := by decide +kernel
theorem dX7_set_20 : decode cX7_set 20 = .ok (.istore_n 3, 1) := by decide +kernel
theorem dX7_set_21 : decode cX7_set 21 = .ok (.aload_n 0, 1) := by decide +kernel
theorem dX7_set_22 : decode cX7_set 22 = .ok (.getfield 7, 3) := by decide +kernel
theorem dX7_set_25 : decode cX7_set 25 = .ok (.sipush 177, 3) := by decide +kernel
theorem dX7_set_28 : decode cX7_set 28 = .ok (.iload_n 1, 1) := by decide +kernel
theorem dX7_set_29 : decode cX7_set 29 = .ok (.iadd, 1) := by decide +kernel
theorem dX7_set_30 : decode cX7_set 30 = .ok (.iload_n 2, 1) := by decide +kernel
theorem dX7_set_31 : decode cX7_set 31 = .ok (.iastore, 1) := by decide +kernel
theorem dX7_set_32 : decode cX7_set 32 = .ok (.iload_n 3, 1) := by decide +kernel
theorem dX7_set_33 : decode cX7_set 33 = .ok (.ireturn, 1) := by decide +kernel
theorem dX7_isBattery_0 : decode cX7_isBattery 0 = .ok (.iload_n 0, 1) := by decide +kernel
theorem dX7_isBattery_1 : decode cX7_isBattery 1 = .ok (.ifCond .ne 14, 3) := by decide +kernel
theorem dX7_isBattery_4 : decode cX7_isBattery 4 = .ok (.iload_n 1, 1) := by decide +kernel
theorem dX7_isBattery_5 : decode cX7_isBattery 5 = .ok (.iconst 0, 1) := by decide +kernel
theorem dX7_isBattery_6 : decode cX7_isBattery 6 = .ok (.sipush 500, 3) := by decide +kernel
theorem dX7_isBattery_9 : decode cX7_isBattery 9 = .ok (.invokestatic 31, 3) := by decide +kernel
theorem dX7_isBattery_12 : decode cX7_isBattery 12 = .ok (.goto 39, 3) := by decide +kernel
theorem dX7_isBattery_15 : decode cX7_isBattery 15 = .ok (.iload_n 0, 1) := by decide +kernel
theorem dX7_isBattery_16 : decode cX7_isBattery 16 = .ok (.iconst 1, 1) := by decide +kernel
theorem dX7_isBattery_17 : decode cX7_isBattery 17 = .ok (.if_icmp .ne 13, 3) := by decide +kernel
theorem dX7_isBattery_20 : decode cX7_isBattery 20 = .ok (.iload_n 1, 1) := by decide +kernel
theorem dX7_isBattery_21 : decode cX7_isBattery 21 = .ok (.iconst 0, 1) := by decide +kernel
theorem dX7_isBattery_22 : decode cX7_isBattery 22 = .ok (.bipush 100, 2) := by decide +kernel
theorem dX7_isBattery_24 : decode cX7_isBattery 24 = .ok (.invokestatic 31, 3) := by decide +kernel
theorem dX7_isBattery_27 : decode cX7_isBattery 27 = .ok (.goto 24, 3) := by decide +kernel
theorem dX7_isBattery_30 : decode cX7_isBattery 30 = .ok (.iload_n 0, 1) := by decide +kernel
theorem dX7_isBattery_31 : decode cX7_isBattery 31 = .ok (.iconst 2, 1) := by decide +kernel
theorem dX7_isBattery_32 : decode cX7_isBattery 32 = .ok (.if_icmp .ne 18, 3) := by decide +kernel
theorem dX7_isBattery_35 : decode cX7_isBattery 35 = .ok (.iload_n 1, 1) := by decide +kernel
theorem dX7_isBattery_36 : decode cX7_isBattery 36 = .ok (.bipush 50, 2) := by decide +kernel
theorem dX7_isBattery_38 : decode cX7_isBattery 38 = .ok (.bipush 100, 2) := by decide +kernel
theorem dX7_isBattery_40 : decode cX7_isBattery 40 = .ok (.invokestatic 31, 3) := by decide +kernel
theorem dX7_isBattery_43 : decode cX7_isBattery 43 = .ok (.ifCond .eq 7, 3) := by decide +kernel
theorem dX7_isBattery_46 : decode cX7_isBattery 46 = .ok (.iconst 1, 1) := by decide +kernel
theorem dX7_isBattery_47 : decode cX7_isBattery 47 = .ok (.goto 4, 3) := by decide +kernel
theorem dX7_isBattery_50 : decode cX7_isBattery 50 = .ok (.iconst 0, 1) := by decide +kernel
theorem dX7_isBattery_51 : decode cX7_isBattery 51 = .ok (.ireturn, 1) := by decide +kernel
theorem dX7_setBattery_0 : decode cX7_setBattery 0 = .ok (.iload_n 1, 1) := by decide +kernel
theorem dX7_setBattery_1 : decode cX7_setBattery 1 = .ok (.iconst 0, 1) := by decide +kernel
theorem dX7_setBattery_2 : decode cX7_setBattery 2 = .ok (.iconst 1, 1) := by decide +kernel
theorem dX7_setBattery_3 : decode cX7_setBattery 3 = .ok (.invokestatic 31, 3) := by decide +kernel
theorem dX7_setBattery_6 : decode cX7_setBattery 6 = .ok (.ifCond .eq 11, 3) := by decide +kernel
theorem dX7_setBattery_9 : decode cX7_setBattery 9 = .ok (.iload_n 2, 1) := by decide +kernel
theorem dX7_setBattery_10 : decode cX7_setBattery 10 = .ok (.iload_n 3, 1) := by decide +kernel
theorem dX7_setBattery_11 : decode cX7_setBattery 11 = .ok (.invokestatic 96, 3) := by decide +kernel
theorem dX7_setBattery_14 : decode cX7_setBattery 14 = .ok (.ifCond .ne 6, 3) := by decide +kernel
theorem dX7_setBattery_17 : decode cX7_setBattery 17 = .ok (.ldc 43, 2) := by decide +kernel
theorem dX7_setBattery_19 : decode cX7_setBattery 19 = .ok (.ireturn, 1) := by decide +kernel
theorem dX7_setBattery_20 : decode cX7_setBattery 20 = .ok (.aload_n 0, 1) := by decide +kernel
theorem dX7_setBattery_21 : decode cX7_setBattery 21 = .ok (.invokevirtual 45, 3) := by decide +kernel
theorem dX7_setBattery_24 : decode cX7_setBattery 24 = .ok (.bipush 116, 2) := by decide +kernel
theorem dX7_setBattery_26 : decode cX7_setBattery 26 = .ok (.iconst 4, 1) := by decide +kernel
theorem dX7_setBattery_27 : decode cX7_setBattery 27 = .ok (.iload_n 1, 1) := by decide +kernel
theorem dX7_setBattery_28 : decode cX7_setBattery 28 = .ok (.imul, 1) := by decide +kernel
theorem dX7_setBattery_29 : decode cX7_setBattery 29 = .ok (.iadd, 1) := by decide +kernel
theorem dX7_setBattery_30 : decode cX7_setBattery 30 = .ok (.istore 4, 2) := by decide +kernel
theorem dX7_setBattery_32 : decode cX7_setBattery 32 = .ok (.aload_n 0, 1) := by decide +kernel
theorem dX7_setBattery_33 : decode cX7_setBattery 33 = .ok (.getfield 7, 3) := by decide +kernel
theorem dX7_setBattery_36 : decode cX7_setBattery 36 = .ok (.iload 4, 2) := by decide +kernel
theorem dX7_setBattery_38 : decode cX7_setBattery 38 = .ok (.iload_n 2, 1) := by decide +kernel
theorem dX7_setBattery_39 : decode cX7_setBattery 39 = .ok (.iadd, 1) := by decide +kernel
theorem dX7_setBattery_40 : decode cX7_setBattery 40 = .ok (.iaload, 1) := by decide +kernel
theorem dX7_setBattery_41 : decode cX7_setBattery 41 = .ok (.istore 5, 2) := by decide +kernel
theorem dX7_setBattery_43 : decode cX7_setBattery 43 = .ok (.aload_n 0, 1) := by decide +kernel
theorem dX7_setBattery_44 : decode cX7_setBattery 44 = .ok (.getfield 7, 3) := by decide +kernel
theorem dX7_setBattery_47 : decode cX7_setBattery 47 = .ok (.iload 4, 2) := by decide +kernel
theorem dX7_setBattery_49 : decode cX7_setBattery 49 = .ok (.iload_n 2, 1) := by decide +kernel
theorem dX7_setBattery_50 : decode cX7_setBattery 50 = .ok (.iadd, 1) := by decide +kernel
theorem dX7_setBattery_51 : decode cX7_setBattery 51 = .ok (.iload_n 3, 1) := by decide +kernel
theorem dX7_setBattery_52 : decode cX7_setBattery 52 = .ok (.iastore, 1) := by decide +kernel
theorem dX7_setBattery_53 : decode cX7_setBattery 53 = .ok (.aload_n 0, 1) := by decide +kernel
theorem dX7_setBattery_54 : decode cX7_setBattery 54 = .ok (.getfield 7, 3) := by decide +kernel
theorem dX7_setBattery_57 : decode cX7_setBattery 57 = .ok (.iload 4, 2) := by decide +kernel
theorem dX7_setBattery_59 : decode cX7_setBattery 59 = .ok (.iconst 3, 1) := by decide +kernel
theorem dX7_setBattery_60 : decode cX7_setBattery 60 = .ok (.iadd, 1) := by decide +kernel
theorem dX7_setBattery_61 : decode cX7_setBattery 61 = .ok (.iaload, 1) := by decide +kernel
theorem dX7_setBattery_62 : decode cX7_setBattery 62 = .ok (.aload_n 0, 1) := by decide +kernel
theorem dX7_setBattery_63 : decode cX7_setBattery 63 = .ok (.getfield 7, 3) := by decide +kernel
theorem dX7_setBattery_66 : decode cX7_setBattery 66 = .ok (.iload 4, 2) := by decide +kernel
theorem dX7_setBattery_68 : decode cX7_setBattery 68 = .ok (.iconst 0, 1) := by decide +kernel
theorem dX7_setBattery_69 : decode cX7_setBattery 69 = .ok (.iadd, 1) := by decide +kernel
theorem dX7_setBattery_70 : decode cX7_setBattery 70 = .ok (.iaload, 1) := by decide +kernel
theorem dX7_setBattery_71 : decode cX7_setBattery 71 = .ok (.isub, 1) := by decide +kernel
theorem dX7_setBattery_72 : decode cX7_setBattery 72 = .ok (.istore 6, 2) := by decide +kernel
theorem dX7_setBattery_74 : decode cX7_setBattery 74 = .ok (.iload 6, 2) := by decide +kernel
theorem dX7_setBattery_76 : decode cX7_setBattery 76 = .ok (.ifCond .le 30, 3) := by decide +kernel
theorem dX7_setBattery_79 : decode cX7_setBattery 79 = .ok (.aload_n 0, 1) := by decide +kernel
theorem dX7_setBattery_80 : decode cX7_setBattery 80 = .ok (.getfield 7, 3) := by decide +kernel
theorem dX7_setBattery_83 : decode cX7_setBattery 83 = .ok (.iload 4, 2) := by decide +kernel
theorem dX7_setBattery_85 : decode cX7_setBattery 85 = .ok (.iconst 3, 1) := by decide +kernel
theorem dX7_setBattery_86 : decode cX7_setBattery 86 = .ok (.iadd, 1) := by decide +kernel
theorem dX7_setBattery_87 : decode cX7_setBattery 87 = .ok (.dup2, 1) := by decide +kernel
theorem dX7_setBattery_88 : decode cX7_setBattery 88 = .ok (.iaload, 1) := by decide +kernel
theorem dX7_setBattery_89 : decode cX7_setBattery 89 = .ok (.iload 6, 2) := by decide +kernel
theorem dX7_setBattery_91 : decode cX7_setBattery 91 = .ok (.isub, 1) := by decide +kernel
theorem dX7_setBattery_92 : decode cX7_setBattery 92 = .ok (.iastore, 1) := by decide +kernel
theorem dX7_setBattery_93 : decode cX7_setBattery 93 = .ok (.aload_n 0, 1) := by decide +kernel
theorem dX7_setBattery_94 : decode cX7_setBattery 94 = .ok (.getfield 7, 3) := by decide +kernel
theorem dX7_setBattery_97 : decode cX7_setBattery 97 = .ok (.sipush 185, 3) := by decide +kernel
theorem dX7_setBattery_100 : decode cX7_setBattery 100 = .ok (.dup2, 1) := by decide +kernel
theorem dX7_setBattery_101 : decode cX7_setBattery 101 = .ok (.iaload, 1) := by decide +kernel
theorem dX7_setBattery_102 : decode cX7_setBattery 102 = .ok (.iload 6, 2) := by decide +kernel
theorem dX7_setBattery_104 : decode cX7_setBattery 104 = .ok (.iadd, 1) := by decide +kernel
theorem dX7_setBattery_105 : decode cX7_setBattery 105 = .ok (.iastore, 1) := by decide +kernel
theorem dX7_setBattery_106 : decode cX7_setBattery 106 = .ok (.iload 5, 2) := by decide +kernel
theorem dX7_setBattery_108 : decode cX7_setBattery 108 = .ok (.ireturn, 1) := by decide +kernel
theorem dX7_canDraw_0 : decode cX7_canDraw 0 = .ok (.aload_n 0, 1) := by decide +kernel
theorem dX7_canDraw_1 : decode cX7_canDraw 1 = .ok (.iload_n 1, 1) := by decide +kernel
theorem dX7_canDraw_2 : decode cX7_canDraw 2 = .ok (.iconst 4, 1) := by decide +kernel
theorem dX7_canDraw_3 : decode cX7_canDraw 3 = .ok (.invokevirtual 56, 3) := by decide +kernel
theorem dX7_canDraw_6 : decode cX7_canDraw 6 = .ok (.aload_n 0, 1) := by decide +kernel
theorem dX7_canDraw_7 : decode cX7_canDraw 7 = .ok (.iconst 0, 1) := by decide +kernel
theorem dX7_canDraw_8 : decode cX7_canDraw 8 = .ok (.invokevirtual 67, 3) := by decide +kernel
theorem dX7_canDraw_11 : decode cX7_canDraw 11 = .ok (.iadd, 1) := by decide +kernel
theorem dX7_canDraw_12 : decode cX7_canDraw 12 = .ok (.istore_n 2, 1) := by decide +kernel
theorem dX7_canDraw_13 : decode cX7_canDraw 13 = .ok (.aload_n 0, 1) := by decide +kernel
theorem dX7_canDraw_14 : decode cX7_canDraw 14 = .ok (.iload_n 1, 1) := by decide +kernel
theorem dX7_canDraw_15 : decode cX7_canDraw 15 = .ok (.iconst 1, 1) := by decide +kernel
theorem dX7_canDraw_16 : decode cX7_canDraw 16 = .ok (.invokevirtual 56, 3) := by decide +kernel
theorem dX7_canDraw_19 : decode cX7_canDraw 19 = .ok (.iload_n 2, 1) := by decide +kernel
theorem dX7_canDraw_20 : decode cX7_canDraw 20 = .ok (.if_icmp .ge 12, 3) := by decide +kernel
theorem dX7_canDraw_23 : decode cX7_canDraw 23 = .ok (.aload_n 0, 1) := by decide +kernel
theorem dX7_canDraw_24 : decode cX7_canDraw 24 = .ok (.iload_n 1, 1) := by decide +kernel
theorem dX7_canDraw_25 : decode cX7_canDraw 25 = .ok (.iconst 1, 1) := by decide +kernel
theorem dX7_canDraw_26 : decode cX7_canDraw 26 = .ok (.invokevirtual 56, 3) := by decide +kernel
theorem dX7_canDraw_29 : decode cX7_canDraw 29 = .ok (.goto 4, 3) := by decide +kernel
theorem dX7_canDraw_32 : decode cX7_canDraw 32 = .ok (.iload_n 2, 1) := by decide +kernel
theorem dX7_canDraw_33 : decode cX7_canDraw 33 = .ok (.istore_n 3, 1) := by decide +kernel
theorem dX7_canDraw_34 : decode cX7_canDraw 34 = .ok (.aload_n 0, 1) := by decide +kernel
theorem dX7_canDraw_35 : decode cX7_canDraw 35 = .ok (.iload_n 1, 1) := by decide +kernel
theorem dX7_canDraw_36 : decode cX7_canDraw 36 = .ok (.iconst 3, 1) := by decide +kernel
theorem dX7_canDraw_37 : decode cX7_canDraw 37 = .ok (.invokevirtual 56, 3) := by decide +kernel
theorem dX7_canDraw_40 : decode cX7_canDraw 40 = .ok (.ifCond .eq 7, 3) := by decide +kernel
theorem dX7_canDraw_43 : decode cX7_canDraw 43 = .ok (.iload_n 3, 1) := by decide +kernel
theorem dX7_canDraw_44 : decode cX7_canDraw 44 = .ok (.ifCond .ge 7, 3) := by decide +kernel
theorem dX7_canDraw_47 : decode cX7_canDraw 47 = .ok (.iconst 0, 1) := by decide +kernel
theorem dX7_canDraw_48 : decode cX7_canDraw 48 = .ok (.goto 4, 3) := by decide +kernel
theorem dX7_canDraw_51 : decode cX7_canDraw 51 = .ok (.iload_n 3, 1) := by decide +kernel
theorem dX7_canDraw_52 : decode cX7_canDraw 52 = .ok (.ireturn, 1) := by decide +kernel
theorem dX7_canGive_0 : decode cX7_canGive 0 = .ok (.aload_n 0, 1) := by decide +kernel
theorem dX7_canGive_1 : decode cX7_canGive 1 = .ok (.iload_n 1, 1) := by decide +kernel
theorem dX7_canGive_2 : decode cX7_canGive 2 = .ok (.iconst 3, 1) := by decide +kernel
theorem dX7_canGive_3 : decode cX7_canGive 3 = .ok (.invokevirtual 99, 3) := by decide +kernel
theorem dX7_canGive_6 : decode cX7_canGive 6 = .ok (.aload_n 0, 1) := by decide +kernel
theorem dX7_canGive_7 : decode cX7_canGive 7 = .ok (.iload_n 1, 1) := by decide +kernel
theorem dX7_canGive_8 : decode cX7_canGive 8 = .ok (.iconst 1, 1) := by decide +kernel
theorem dX7_canGive_9 : decode cX7_canGive 9 = .ok (.invokevirtual 99, 3) := by decide +kernel
theorem dX7_canGive_12 : decode cX7_canGive 12 = .ok (.if_icmp .ge 12, 3) := by decide +kernel
theorem dX7_canGive_15 : decode cX7_canGive 15 = .ok (.aload_n 0, 1) := by decide +kernel
theorem dX7_canGive_16 : decode cX7_canGive 16 = .ok (.iload_n 1, 1) := by decide +kernel
theorem dX7_canGive_17 : decode cX7_canGive 17 = .ok (.iconst 3, 1) := by decide +kernel
theorem dX7_canGive_18 : decode cX7_canGive 18 = .ok (.invokevirtual 99, 3) := by decide +kernel
theorem dX7_canGive_21 : decode cX7_canGive 21 = .ok (.goto 9, 3) := by decide +kernel
theorem dX7_canGive_24 : decode cX7_canGive 24 = .ok (.aload_n 0, 1) := by decide +kernel
theorem dX7_canGive_25 : decode cX7_canGive 25 = .ok (.iload_n 1, 1) := by decide +kernel
theorem dX7_canGive_26 : decode cX7_canGive 26 = .ok (.iconst 1, 1) := by decide +kernel
theorem dX7_canGive_27 : decode cX7_canGive 27 = .ok (.invokevirtual 99, 3) := by decide +kernel
theorem dX7_canGive_30 : decode cX7_canGive 30 = .ok (.ireturn, 1) := by decide +kernel
theorem dX7_wanted_0 : decode cX7_wanted 0 = .ok (.iconst 0, 1) := by decide +kernel
theorem dX7_wanted_1 : decode cX7_wanted 1 = .ok (.istore_n 1, 1) := by decide +kernel
theorem dX7_wanted_2 : decode cX7_wanted 2 = .ok (.iconst 0, 1) := by decide +kernel
theorem dX7_wanted_3 : decode cX7_wanted 3 = .ok (.istore_n 2, 1) := by decide +kernel
theorem dX7_wanted_4 : decode cX7_wanted 4 = .ok (.iload_n 2, 1) := by decide +kernel
theorem dX7_wanted_5 : decode cX7_wanted 5 = .ok (.aload_n 0, 1) := by decide +kernel
theorem dX7_wanted_6 : decode cX7_wanted 6 = .ok (.getfield 7, 3) := by decide +kernel
theorem dX7_wanted_9 : decode cX7_wanted 9 = .ok (.sipush 172, 3) := by decide +kernel
theorem dX7_wanted_12 : decode cX7_wanted 12 = .ok (.iaload, 1) := by decide +kernel
theorem dX7_wanted_13 : decode cX7_wanted 13 = .ok (.if_icmp .ge 18, 3) := by decide +kernel
theorem dX7_wanted_16 : decode cX7_wanted 16 = .ok (.iload_n 1, 1) := by decide +kernel
theorem dX7_wanted_17 : decode cX7_wanted 17 = .ok (.aload_n 0, 1) := by decide +kernel
theorem dX7_wanted_18 : decode cX7_wanted 18 = .ok (.getfield 25, 3) := by decide +kernel
theorem dX7_wanted_21 : decode cX7_wanted 21 = .ok (.iload_n 2, 1) := by decide +kernel
theorem dX7_wanted_22 : decode cX7_wanted 22 = .ok (.iaload, 1) := by decide +kernel
theorem dX7_wanted_23 : decode cX7_wanted 23 = .ok (.iadd, 1) := by decide +kernel
theorem dX7_wanted_24 : decode cX7_wanted 24 = .ok (.istore_n 1, 1) := by decide +kernel
theorem dX7_wanted_25 : decode cX7_wanted 25 = .ok (.iinc 2 1, 3) := by decide +kernel
theorem dX7_wanted_28 : decode cX7_wanted 28 = .ok (.goto (-24), 3) := by decide +kernel
theorem dX7_wanted_31 : decode cX7_wanted 31 = .ok (.iload_n 1, 1) := by decide +kernel
theorem dX7_wanted_32 : decode cX7_wanted 32 = .ok (.ireturn, 1) := by decide +kernel
theorem dX7_shed_0 : decode cX7_shed 0 = .ok (.aload_n 0, 1) := by decide +kernel
theorem dX7_shed_1 : decode cX7_shed 1 = .ok (.getfield 7, 3) := by decide +kernel
theorem dX7_shed_4 : decode cX7_shed 4 = .ok (.sipush 176, 3) := by decide +kernel
theorem dX7_shed_7 : decode cX7_shed 7 = .ok (.iaload, 1) := by decide +kernel
theorem dX7_shed_8 : decode cX7_shed 8 = .ok (.istore_n 1, 1) := by decide +kernel
theorem dX7_shed_9 : decode cX7_shed 9 = .ok (.iconst 0, 1) := by decide +kernel
theorem dX7_shed_10 : decode cX7_shed 10 = .ok (.istore_n 2, 1) := by decide +kernel
theorem dX7_shed_11 : decode cX7_shed 11 = .ok (.iconst 0, 1) := by decide +kernel
theorem dX7_shed_12 : decode cX7_shed 12 = .ok (.istore_n 3, 1) := by decide +kernel
theorem dX7_shed_13 : decode cX7_shed 13 = .ok (.iload_n 3, 1) := by decide +kernel
theorem dX7_shed_14 : decode cX7_shed 14 = .ok (.aload_n 0, 1) := by decide +kernel
theorem dX7_shed_15 : decode cX7_shed 15 = .ok (.getfield 7, 3) := by decide +kernel
theorem dX7_shed_18 : decode cX7_shed 18 = .ok (.sipush 172, 3) := by decide +kernel
theorem dX7_shed_21 : decode cX7_shed 21 = .ok (.iaload, 1) := by decide +kernel
theorem dX7_shed_22 : decode cX7_shed 22 = .ok (.if_icmp .ge 35, 3) := by decide +kernel
theorem dX7_shed_25 : decode cX7_shed 25 = .ok (.aload_n 0, 1) := by decide +kernel
theorem dX7_shed_26 : decode cX7_shed 26 = .ok (.iload_n 3, 1) := by decide +kernel
theorem dX7_shed_27 : decode cX7_shed 27 = .ok (.iconst 0, 1) := by decide +kernel
theorem dX7_shed_28 : decode cX7_shed 28 = .ok (.invokevirtual 56, 3) := by decide +kernel
theorem dX7_shed_31 : decode cX7_shed 31 = .ok (.iload_n 1, 1) := by decide +kernel
theorem dX7_shed_32 : decode cX7_shed 32 = .ok (.if_icmp .ne 19, 3) := by decide +kernel
theorem dX7_shed_35 : decode cX7_shed 35 = .ok (.iload_n 2, 1) := by decide +kernel
theorem dX7_shed_36 : decode cX7_shed 36 = .ok (.aload_n 0, 1) := by decide +kernel
theorem dX7_shed_37 : decode cX7_shed 37 = .ok (.getfield 25, 3) := by decide +kernel
theorem dX7_shed_40 : decode cX7_shed 40 = .ok (.iload_n 3, 1) := by decide +kernel
theorem dX7_shed_41 : decode cX7_shed 41 = .ok (.iaload, 1) := by decide +kernel
theorem dX7_shed_42 : decode cX7_shed 42 = .ok (.iadd, 1) := by decide +kernel
theorem dX7_shed_43 : decode cX7_shed 43 = .ok (.istore_n 2, 1) := by decide +kernel
theorem dX7_shed_44 : decode cX7_shed 44 = .ok (.aload_n 0, 1) := by decide +kernel
theorem dX7_shed_45 : decode cX7_shed 45 = .ok (.getfield 25, 3) := by decide +kernel
theorem dX7_shed_48 : decode cX7_shed 48 = .ok (.iload_n 3, 1) := by decide +kernel
theorem dX7_shed_49 : decode cX7_shed 49 = .ok (.iconst 0, 1) := by decide +kernel
theorem dX7_shed_50 : decode cX7_shed 50 = .ok (.iastore, 1) := by decide +kernel
theorem dX7_shed_51 : decode cX7_shed 51 = .ok (.iinc 3 1, 3) := by decide +kernel
theorem dX7_shed_54 : decode cX7_shed 54 = .ok (.goto (-41), 3) := by decide +kernel
theorem dX7_shed_57 : decode cX7_shed 57 = .ok (.iload_n 2, 1) := by decide +kernel
theorem dX7_shed_58 : decode cX7_shed 58 = .ok (.ifCond .le 28, 3) := by decide +kernel
theorem dX7_shed_61 : decode cX7_shed 61 = .ok (.aload_n 0, 1) := by decide +kernel
theorem dX7_shed_62 : decode cX7_shed 62 = .ok (.getfield 7, 3) := by decide +kernel
theorem dX7_shed_65 : decode cX7_shed 65 = .ok (.sipush 189, 3) := by decide +kernel
theorem dX7_shed_68 : decode cX7_shed 68 = .ok (.iload_n 1, 1) := by decide +kernel
theorem dX7_shed_69 : decode cX7_shed 69 = .ok (.iadd, 1) := by decide +kernel
theorem dX7_shed_70 : decode cX7_shed 70 = .ok (.dup2, 1) := by decide +kernel
theorem dX7_shed_71 : decode cX7_shed 71 = .ok (.iaload, 1) := by decide +kernel
theorem dX7_shed_72 : decode cX7_shed 72 = .ok (.iconst 1, 1) := by decide +kernel
theorem dX7_shed_73 : decode cX7_shed 73 = .ok (.iadd, 1) := by decide +kernel
theorem dX7_shed_74 : decode cX7_shed 74 = .ok (.iastore, 1) := by decide +kernel
theorem dX7_shed_75 : decode cX7_shed 75 = .ok (.aload_n 0, 1) := by decide +kernel
theorem dX7_shed_76 : decode cX7_shed 76 = .ok (.getfield 7, 3) := by decide +kernel
theorem dX7_shed_79 : decode cX7_shed 79 = .ok (.sipush 192, 3) := by decide +kernel
theorem dX7_shed_82 : decode cX7_shed 82 = .ok (.iload_n 1, 1) := by decide +kernel
theorem dX7_shed_83 : decode cX7_shed 83 = .ok (.iadd, 1) := by decide +kernel
theorem dX7_shed_84 : decode cX7_shed 84 = .ok (.iconst 1, 1) := by decide +kernel
theorem dX7_shed_85 : decode cX7_shed 85 = .ok (.iastore, 1) := by decide +kernel
theorem dX7_shed_86 : decode cX7_shed 86 = .ok (.aload_n 0, 1) := by decide +kernel
theorem dX7_shed_87 : decode cX7_shed 87 = .ok (.getfield 7, 3) := by decide +kernel
theorem dX7_shed_90 : decode cX7_shed 90 = .ok (.sipush 176, 3) := by decide +kernel
theorem dX7_shed_93 : decode cX7_shed 93 = .ok (.iconst 3, 1) := by decide +kernel
theorem dX7_shed_94 : decode cX7_shed 94 = .ok (.iload_n 1, 1) := by decide +kernel
theorem dX7_shed_95 : decode cX7_shed 95 = .ok (.isub, 1) := by decide +kernel
theorem dX7_shed_96 : decode cX7_shed 96 = .ok (.iastore, 1) := by decide +kernel
theorem dX7_shed_97 : decode cX7_shed 97 = .ok (.return_, 1) := by decide +kernel
theorem dX7_serve_0 : decode cX7_serve 0 = .ok (.iload_n 1, 1) := by decide +kernel
theorem dX7_serve_1 : decode cX7_serve 1 = .ok (.istore_n 2, 1) := by decide +kernel
theorem dX7_serve_2 : decode cX7_serve 2 = .ok (.iconst 0, 1) := by decide +kernel
theorem dX7_serve_3 : decode cX7_serve 3 = .ok (.istore_n 3, 1) := by decide +kernel
theorem dX7_serve_4 : decode cX7_serve 4 = .ok (.iload_n 3, 1) := by decide +kernel
theorem dX7_serve_5 : decode cX7_serve 5 = .ok (.iconst 3, 1) := by decide +kernel
theorem dX7_serve_6 : decode cX7_serve 6 = .ok (.if_icmp .ge 119, 3) := by decide +kernel
theorem dX7_serve_9 : decode cX7_serve 9 = .ok (.iconst 0, 1) := by decide +kernel
theorem dX7_serve_10 : decode cX7_serve 10 = .ok (.istore 4, 2) := by decide +kernel
theorem dX7_serve_12 : decode cX7_serve 12 = .ok (.iload 4, 2) := by decide +kernel
theorem dX7_serve_14 : decode cX7_serve 14 = .ok (.aload_n 0, 1) := by decide +kernel
theorem dX7_serve_15 : decode cX7_serve 15 = .ok (.getfield 7, 3) := by decide +kernel
theorem dX7_serve_18 : decode cX7_serve 18 = .ok (.sipush 172, 3) := by decide +kernel
theorem dX7_serve_21 : decode cX7_serve 21 = .ok (.iaload, 1) := by decide +kernel
theorem dX7_serve_22 : decode cX7_serve 22 = .ok (.if_icmp .ge 97, 3) := by decide +kernel
theorem dX7_serve_25 : decode cX7_serve 25 = .ok (.aload_n 0, 1) := by decide +kernel
theorem dX7_serve_26 : decode cX7_serve 26 = .ok (.iload 4, 2) := by decide +kernel
theorem dX7_serve_28 : decode cX7_serve 28 = .ok (.iconst 0, 1) := by decide +kernel
theorem dX7_serve_29 : decode cX7_serve 29 = .ok (.invokevirtual 56, 3) := by decide +kernel
theorem dX7_serve_32 : decode cX7_serve 32 = .ok (.iload_n 3, 1) := by decide +kernel
theorem dX7_serve_33 : decode cX7_serve 33 = .ok (.if_icmp .ne 80, 3) := by decide +kernel
theorem dX7_serve_36 : decode cX7_serve 36 = .ok (.iload_n 2, 1) := by decide +kernel
theorem dX7_serve_37 : decode cX7_serve 37 = .ok (.aload_n 0, 1) := by decide +kernel
theorem dX7_serve_38 : decode cX7_serve 38 = .ok (.getfield 25, 3) := by decide +kernel
theorem dX7_serve_41 : decode cX7_serve 41 = .ok (.iload 4, 2) := by decide +kernel
theorem dX7_serve_43 : decode cX7_serve 43 = .ok (.iaload, 1) := by decide +kernel
theorem dX7_serve_44 : decode cX7_serve 44 = .ok (.if_icmp .lt 13, 3) := by decide +kernel
theorem dX7_serve_47 : decode cX7_serve 47 = .ok (.aload_n 0, 1) := by decide +kernel
theorem dX7_serve_48 : decode cX7_serve 48 = .ok (.getfield 25, 3) := by decide +kernel
theorem dX7_serve_51 : decode cX7_serve 51 = .ok (.iload 4, 2) := by decide +kernel
theorem dX7_serve_53 : decode cX7_serve 53 = .ok (.iaload, 1) := by decide +kernel
theorem dX7_serve_54 : decode cX7_serve 54 = .ok (.goto 28, 3) := by decide +kernel
theorem dX7_serve_57 : decode cX7_serve 57 = .ok (.iload_n 2, 1) := by decide +kernel
theorem dX7_serve_58 : decode cX7_serve 58 = .ok (.bipush 100, 2) := by decide +kernel
theorem dX7_serve_60 : decode cX7_serve 60 = .ok (.imul, 1) := by decide +kernel
theorem dX7_serve_61 : decode cX7_serve 61 = .ok (.aload_n 0, 1) := by decide +kernel
theorem dX7_serve_62 : decode cX7_serve 62 = .ok (.getfield 25, 3) := by decide +kernel
theorem dX7_serve_65 : decode cX7_serve 65 = .ok (.iload 4, 2) := by decide +kernel
theorem dX7_serve_67 : decode cX7_serve 67 = .ok (.iaload, 1) := by decide +kernel
theorem dX7_serve_68 : decode cX7_serve 68 = .ok (.aload_n 0, 1) := by decide +kernel
theorem dX7_serve_69 : decode cX7_serve 69 = .ok (.iconst 3, 1) := by decide +kernel
theorem dX7_serve_70 : decode cX7_serve 70 = .ok (.invokevirtual 67, 3) := by decide +kernel
theorem dX7_serve_73 : decode cX7_serve 73 = .ok (.imul, 1) := by decide +kernel
theorem dX7_serve_74 : decode cX7_serve 74 = .ok (.if_icmp .lt 7, 3) := by decide +kernel
theorem dX7_serve_77 : decode cX7_serve 77 = .ok (.iload_n 2, 1) := by decide +kernel
theorem dX7_serve_78 : decode cX7_serve 78 = .ok (.goto 4, 3) := by decide +kernel
theorem dX7_serve_81 : decode cX7_serve 81 = .ok (.iconst 0, 1) := by decide +kernel
theorem dX7_serve_82 : decode cX7_serve 82 = .ok (.istore 5, 2) := by decide +kernel
theorem dX7_serve_84 : decode cX7_serve 84 = .ok (.aload_n 0, 1) := by decide +kernel
theorem dX7_serve_85 : decode cX7_serve 85 = .ok (.getfield 7, 3) := by decide +kernel
theorem dX7_serve_88 : decode cX7_serve 88 = .ok (.bipush 8, 2) := by decide +kernel
theorem dX7_serve_90 : decode cX7_serve 90 = .ok (.iload 4, 2) := by decide +kernel
theorem dX7_serve_92 : decode cX7_serve 92 = .ok (.imul, 1) := by decide +kernel
theorem dX7_serve_93 : decode cX7_serve 93 = .ok (.iconst 5, 1) := by decide +kernel
theorem dX7_serve_94 : decode cX7_serve 94 = .ok (.iadd, 1) := by decide +kernel
theorem dX7_serve_95 : decode cX7_serve 95 = .ok (.iload 5, 2) := by decide +kernel
theorem dX7_serve_97 : decode cX7_serve 97 = .ok (.iastore, 1) := by decide +kernel
theorem dX7_serve_98 : decode cX7_serve 98 = .ok (.aload_n 0, 1) := by decide +kernel
theorem dX7_serve_99 : decode cX7_serve 99 = .ok (.iload 4, 2) := by decide +kernel
theorem dX7_serve_101 : decode cX7_serve 101 = .ok (.bipush 7, 2) := by decide +kernel
theorem dX7_serve_103 : decode cX7_serve 103 = .ok (.iload 5, 2) := by decide +kernel
theorem dX7_serve_105 : decode cX7_serve 105 = .ok (.invokevirtual 71, 3) := by decide +kernel
theorem dX7_serve_108 : decode cX7_serve 108 = .ok (.iload_n 2, 1) := by decide +kernel
theorem dX7_serve_109 : decode cX7_serve 109 = .ok (.iload 5, 2) := by decide +kernel
theorem dX7_serve_111 : decode cX7_serve 111 = .ok (.isub, 1) := by decide +kernel
theorem dX7_serve_112 : decode cX7_serve 112 = .ok (.istore_n 2, 1) := by decide +kernel
theorem dX7_serve_113 : decode cX7_serve 113 = .ok (.iinc 4 1, 3) := by decide +kernel
theorem dX7_serve_116 : decode cX7_serve 116 = .ok (.goto (-104), 3) := by decide +kernel
theorem dX7_serve_119 : decode cX7_serve 119 = .ok (.iinc 3 1, 3) := by decide +kernel
theorem dX7_serve_122 : decode cX7_serve 122 = .ok (.goto (-118), 3) := by decide +kernel
theorem dX7_serve_125 : decode cX7_serve 125 = .ok (.iload_n 1, 1) := by decide +kernel
theorem dX7_serve_126 : decode cX7_serve 126 = .ok (.iload_n 2, 1) := by decide +kernel
theorem dX7_serve_127 : decode cX7_serve 127 = .ok (.isub, 1) := by decide +kernel
theorem dX7_serve_128 : decode cX7_serve 128 = .ok (.ireturn, 1) := by decide +kernel
theorem dX7_why_0 : decode cX7_why 0 = .ok (.aload_n 0, 1) := by decide +kernel
theorem dX7_why_1 : decode cX7_why 1 = .ok (.iload_n 1, 1) := by decide +kernel
theorem dX7_why_2 : decode cX7_why 2 = .ok (.iconst 5, 1) := by decide +kernel
theorem dX7_why_3 : decode cX7_why 3 = .ok (.invokevirtual 56, 3) := by decide +kernel
theorem dX7_why_6 : decode cX7_why 6 = .ok (.aload_n 0, 1) := by decide +kernel
theorem dX7_why_7 : decode cX7_why 7 = .ok (.iload_n 1, 1) := by decide +kernel
theorem dX7_why_8 : decode cX7_why 8 = .ok (.iconst 1, 1) := by decide +kernel
theorem dX7_why_9 : decode cX7_why 9 = .ok (.invokevirtual 56, 3) := by decide +kernel
theorem dX7_why_12 : decode cX7_why 12 = .ok (.if_icmp .ne 5, 3) := by decide +kernel
theorem dX7_why_15 : decode cX7_why 15 = .ok (.iconst 0, 1) := by decide +kernel
theorem dX7_why_16 : decode cX7_why 16 = .ok (.ireturn, 1) := by decide +kernel
theorem dX7_why_17 : decode cX7_why 17 = .ok (.aload_n 0, 1) := by decide +kernel
theorem dX7_why_18 : decode cX7_why 18 = .ok (.iload_n 1, 1) := by decide +kernel
theorem dX7_why_19 : decode cX7_why 19 = .ok (.iconst 3, 1) := by decide +kernel
theorem dX7_why_20 : decode cX7_why 20 = .ok (.invokevirtual 56, 3) := by decide +kernel
theorem dX7_why_23 : decode cX7_why 23 = .ok (.ifCond .ne 5, 3) := by decide +kernel
theorem dX7_why_26 : decode cX7_why 26 = .ok (.iconst 1, 1) := by decide +kernel
theorem dX7_why_27 : decode cX7_why 27 = .ok (.ireturn, 1) := by decide +kernel
theorem dX7_why_28 : decode cX7_why 28 = .ok (.aload_n 0, 1) := by decide +kernel
theorem dX7_why_29 : decode cX7_why 29 = .ok (.iload_n 1, 1) := by decide +kernel
theorem dX7_why_30 : decode cX7_why 30 = .ok (.invokevirtual 102, 3) := by decide +kernel
theorem dX7_why_33 : decode cX7_why 33 = .ok (.aload_n 0, 1) := by decide +kernel
theorem dX7_why_34 : decode cX7_why 34 = .ok (.iload_n 1, 1) := by decide +kernel
theorem dX7_why_35 : decode cX7_why 35 = .ok (.iconst 1, 1) := by decide +kernel
theorem dX7_why_36 : decode cX7_why 36 = .ok (.invokevirtual 56, 3) := by decide +kernel
theorem dX7_why_39 : decode cX7_why 39 = .ok (.if_icmp .ge 7, 3) := by decide +kernel
theorem dX7_why_42 : decode cX7_why 42 = .ok (.iconst 2, 1) := by decide +kernel
theorem dX7_why_43 : decode cX7_why 43 = .ok (.goto 27, 3) := by decide +kernel
theorem dX7_why_46 : decode cX7_why 46 = .ok (.aload_n 0, 1) := by decide +kernel
theorem dX7_why_47 : decode cX7_why 47 = .ok (.getfield 7, 3) := by decide +kernel
theorem dX7_why_50 : decode cX7_why 50 = .ok (.sipush 192, 3) := by decide +kernel
theorem dX7_why_53 : decode cX7_why 53 = .ok (.aload_n 0, 1) := by decide +kernel
theorem dX7_why_54 : decode cX7_why 54 = .ok (.iload_n 1, 1) := by decide +kernel
theorem dX7_why_55 : decode cX7_why 55 = .ok (.iconst 0, 1) := by decide +kernel
theorem dX7_why_56 : decode cX7_why 56 = .ok (.invokevirtual 56, 3) := by decide +kernel
theorem dX7_why_59 : decode cX7_why 59 = .ok (.iadd, 1) := by decide +kernel
theorem dX7_why_60 : decode cX7_why 60 = .ok (.iaload, 1) := by decide +kernel
theorem dX7_why_61 : decode cX7_why 61 = .ok (.iconst 1, 1) := by decide +kernel
theorem dX7_why_62 : decode cX7_why 62 = .ok (.if_icmp .ne 7, 3) := by decide +kernel
theorem dX7_why_65 : decode cX7_why 65 = .ok (.iconst 3, 1) := by decide +kernel
theorem dX7_why_66 : decode cX7_why 66 = .ok (.goto 4, 3) := by decide +kernel
theorem dX7_why_69 : decode cX7_why 69 = .ok (.iconst 4, 1) := by decide +kernel
theorem dX7_why_70 : decode cX7_why 70 = .ok (.ireturn, 1) := by decide +kernel
theorem dX7_take_0 : decode cX7_take 0 = .ok (.iload_n 1, 1) := by decide +kernel
theorem dX7_take_1 : decode cX7_take 1 = .ok (.istore_n 2, 1) := by decide +kernel
theorem dX7_take_2 : decode cX7_take 2 = .ok (.iconst 0, 1) := by decide +kernel
theorem dX7_take_3 : decode cX7_take 3 = .ok (.istore_n 3, 1) := by decide +kernel
theorem dX7_take_4 : decode cX7_take 4 = .ok (.iload_n 3, 1) := by decide +kernel
theorem dX7_take_5 : decode cX7_take 5 = .ok (.iconst 2, 1) := by decide +kernel
theorem dX7_take_6 : decode cX7_take 6 = .ok (.if_icmp .ge 52, 3) := by decide +kernel
theorem dX7_take_9 : decode cX7_take 9 = .ok (.aload_n 0, 1) := by decide +kernel
theorem dX7_take_10 : decode cX7_take 10 = .ok (.iload_n 3, 1) := by decide +kernel
theorem dX7_take_11 : decode cX7_take 11 = .ok (.invokevirtual 105, 3) := by decide +kernel
theorem dX7_take_14 : decode cX7_take 14 = .ok (.iload_n 2, 1) := by decide +kernel
theorem dX7_take_15 : decode cX7_take 15 = .ok (.if_icmp .ge 11, 3) := by decide +kernel
theorem dX7_take_18 : decode cX7_take 18 = .ok (.aload_n 0, 1) := by decide +kernel
theorem dX7_take_19 : decode cX7_take 19 = .ok (.iload_n 3, 1) := by decide +kernel
theorem dX7_take_20 : decode cX7_take 20 = .ok (.invokevirtual 105, 3) := by decide +kernel
theorem dX7_take_23 : decode cX7_take 23 = .ok (.goto 4, 3) := by decide +kernel
theorem dX7_take_26 : decode cX7_take 26 = .ok (.iload_n 2, 1) := by decide +kernel
theorem dX7_take_27 : decode cX7_take 27 = .ok (.istore 4, 2) := by decide +kernel
theorem dX7_take_29 : decode cX7_take 29 = .ok (.aload_n 0, 1) := by decide +kernel
theorem dX7_take_30 : decode cX7_take 30 = .ok (.getfield 7, 3) := by decide +kernel
theorem dX7_take_33 : decode cX7_take 33 = .ok (.bipush 116, 2) := by decide +kernel
theorem dX7_take_35 : decode cX7_take 35 = .ok (.iconst 4, 1) := by decide +kernel
theorem dX7_take_36 : decode cX7_take 36 = .ok (.iload_n 3, 1) := by decide +kernel
theorem dX7_take_37 : decode cX7_take 37 = .ok (.imul, 1) := by decide +kernel
theorem dX7_take_38 : decode cX7_take 38 = .ok (.iadd, 1) := by decide +kernel
theorem dX7_take_39 : decode cX7_take 39 = .ok (.iconst 3, 1) := by decide +kernel
theorem dX7_take_40 : decode cX7_take 40 = .ok (.iadd, 1) := by decide +kernel
theorem dX7_take_41 : decode cX7_take 41 = .ok (.dup2, 1) := by decide +kernel
theorem dX7_take_42 : decode cX7_take 42 = .ok (.iaload, 1) := by decide +kernel
theorem dX7_take_43 : decode cX7_take 43 = .ok (.iload 4, 2) := by decide +kernel
theorem dX7_take_45 : decode cX7_take 45 = .ok (.isub, 1) := by decide +kernel
theorem dX7_take_46 : decode cX7_take 46 = .ok (.iastore, 1) := by decide +kernel
theorem dX7_take_47 : decode cX7_take 47 = .ok (.iload_n 2, 1) := by decide +kernel
theorem dX7_take_48 : decode cX7_take 48 = .ok (.iload 4, 2) := by decide +kernel
theorem dX7_take_50 : decode cX7_take 50 = .ok (.isub, 1) := by decide +kernel
theorem dX7_take_51 : decode cX7_take 51 = .ok (.istore_n 2, 1) := by decide +kernel
theorem dX7_take_52 : decode cX7_take 52 = .ok (.iinc 3 1, 3) := by decide +kernel
theorem dX7_take_55 : decode cX7_take 55 = .ok (.goto (-51), 3) := by decide +kernel
theorem dX7_take_58 : decode cX7_take 58 = .ok (.return_, 1) := by decide +kernel
theorem dX7_charge_0 : decode cX7_charge 0 = .ok (.iload_n 1, 1) := by decide +kernel
theorem dX7_charge_1 : decode cX7_charge 1 = .ok (.istore_n 2, 1) := by decide +kernel
theorem dX7_charge_2 : decode cX7_charge 2 = .ok (.iconst 0, 1) := by decide +kernel
theorem dX7_charge_3 : decode cX7_charge 3 = .ok (.istore_n 3, 1) := by decide +kernel
theorem dX7_charge_4 : decode cX7_charge 4 = .ok (.iload_n 3, 1) := by decide +kernel
theorem dX7_charge_5 : decode cX7_charge 5 = .ok (.iconst 2, 1) := by decide +kernel
theorem dX7_charge_6 : decode cX7_charge 6 = .ok (.if_icmp .ge 118, 3) := by decide +kernel
theorem dX7_charge_9 : decode cX7_charge 9 = .ok (.aload_n 0, 1) := by decide +kernel
theorem dX7_charge_10 : decode cX7_charge 10 = .ok (.iload_n 3, 1) := by decide +kernel
theorem dX7_charge_11 : decode cX7_charge 11 = .ok (.iconst 1, 1) := by decide +kernel
theorem dX7_charge_12 : decode cX7_charge 12 = .ok (.invokevirtual 99, 3) := by decide +kernel
theorem dX7_charge_15 : decode cX7_charge 15 = .ok (.iload_n 2, 1) := by decide +kernel
theorem dX7_charge_16 : decode cX7_charge 16 = .ok (.if_icmp .ge 12, 3) := by decide +kernel
theorem dX7_charge_19 : decode cX7_charge 19 = .ok (.aload_n 0, 1) := by decide +kernel
theorem dX7_charge_20 : decode cX7_charge 20 = .ok (.iload_n 3, 1) := by decide +kernel
theorem dX7_charge_21 : decode cX7_charge 21 = .ok (.iconst 1, 1) := by decide +kernel
theorem dX7_charge_22 : decode cX7_charge 22 = .ok (.invokevirtual 99, 3) := by decide +kernel
theorem dX7_charge_25 : decode cX7_charge 25 = .ok (.goto 4, 3) := by decide +kernel
theorem dX7_charge_28 : decode cX7_charge 28 = .ok (.iload_n 2, 1) := by decide +kernel
theorem dX7_charge_29 : decode cX7_charge 29 = .ok (.istore 4, 2) := by decide +kernel
theorem dX7_charge_31 : decode cX7_charge 31 = .ok (.aload_n 0, 1) := by decide +kernel
theorem dX7_charge_32 : decode cX7_charge 32 = .ok (.iload_n 3, 1) := by decide +kernel
theorem dX7_charge_33 : decode cX7_charge 33 = .ok (.iconst 3, 1) := by decide +kernel
theorem dX7_charge_34 : decode cX7_charge 34 = .ok (.invokevirtual 99, 3) := by decide +kernel
theorem dX7_charge_37 : decode cX7_charge 37 = .ok (.iload 4, 2) := by decide +kernel
theorem dX7_charge_39 : decode cX7_charge 39 = .ok (.aload_n 0, 1) := by decide +kernel
theorem dX7_charge_40 : decode cX7_charge 40 = .ok (.iload_n 3, 1) := by decide +kernel
theorem dX7_charge_41 : decode cX7_charge 41 = .ok (.iconst 2, 1) := by decide +kernel
theorem dX7_charge_42 : decode cX7_charge 42 = .ok (.invokevirtual 99, 3) := by decide +kernel
theorem dX7_charge_45 : decode cX7_charge 45 = .ok (.imul, 1) := by decide +kernel
theorem dX7_charge_46 : decode cX7_charge 46 = .ok (.bipush 100, 2) := by decide +kernel
theorem dX7_charge_48 : decode cX7_charge 48 = .ok (.idiv, 1) := by decide +kernel
theorem dX7_charge_49 : decode cX7_charge 49 = .ok (.iadd, 1) := by decide +kernel
theorem dX7_charge_50 : decode cX7_charge 50 = .ok (.aload_n 0, 1) := by decide +kernel
theorem dX7_charge_51 : decode cX7_charge 51 = .ok (.iload_n 3, 1) := by decide +kernel
theorem dX7_charge_52 : decode cX7_charge 52 = .ok (.iconst 0, 1) := by decide +kernel
theorem dX7_charge_53 : decode cX7_charge 53 = .ok (.invokevirtual 99, 3) := by decide +kernel
theorem dX7_charge_56 : decode cX7_charge 56 = .ok (.if_icmp .le 9, 3) := by decide +kernel
theorem dX7_charge_59 : decode cX7_charge 59 = .ok (.iinc 4 (-1), 3) := by decide +kernel
theorem dX7_charge_62 : decode cX7_charge 62 = .ok (.goto (-31), 3) := by decide +kernel
theorem dX7_charge_65 : decode cX7_charge 65 = .ok (.iload 4, 2) := by decide +kernel
theorem dX7_charge_67 : decode cX7_charge 67 = .ok (.aload_n 0, 1) := by decide +kernel
theorem dX7_charge_68 : decode cX7_charge 68 = .ok (.iload_n 3, 1) := by decide +kernel
theorem dX7_charge_69 : decode cX7_charge 69 = .ok (.iconst 2, 1) := by decide +kernel
theorem dX7_charge_70 : decode cX7_charge 70 = .ok (.invokevirtual 99, 3) := by decide +kernel
theorem dX7_charge_73 : decode cX7_charge 73 = .ok (.imul, 1) := by decide +kernel
theorem dX7_charge_74 : decode cX7_charge 74 = .ok (.bipush 100, 2) := by decide +kernel
theorem dX7_charge_76 : decode cX7_charge 76 = .ok (.idiv, 1) := by decide +kernel
theorem dX7_charge_77 : decode cX7_charge 77 = .ok (.istore 5, 2) := by decide +kernel
theorem dX7_charge_79 : decode cX7_charge 79 = .ok (.aload_n 0, 1) := by decide +kernel
theorem dX7_charge_80 : decode cX7_charge 80 = .ok (.getfield 7, 3) := by decide +kernel
theorem dX7_charge_83 : decode cX7_charge 83 = .ok (.bipush 116, 2) := by decide +kernel
theorem dX7_charge_85 : decode cX7_charge 85 = .ok (.iconst 4, 1) := by decide +kernel
theorem dX7_charge_86 : decode cX7_charge 86 = .ok (.iload_n 3, 1) := by decide +kernel
theorem dX7_charge_87 : decode cX7_charge 87 = .ok (.imul, 1) := by decide +kernel
theorem dX7_charge_88 : decode cX7_charge 88 = .ok (.iadd, 1) := by decide +kernel
theorem dX7_charge_89 : decode cX7_charge 89 = .ok (.iconst 3, 1) := by decide +kernel
theorem dX7_charge_90 : decode cX7_charge 90 = .ok (.iadd, 1) := by decide +kernel
theorem dX7_charge_91 : decode cX7_charge 91 = .ok (.dup2, 1) := by decide +kernel
theorem dX7_charge_92 : decode cX7_charge 92 = .ok (.iaload, 1) := by decide +kernel
theorem dX7_charge_93 : decode cX7_charge 93 = .ok (.iload 5, 2) := by decide +kernel
theorem dX7_charge_95 : decode cX7_charge 95 = .ok (.iadd, 1) := by decide +kernel
theorem dX7_charge_96 : decode cX7_charge 96 = .ok (.iastore, 1) := by decide +kernel
theorem dX7_charge_97 : decode cX7_charge 97 = .ok (.aload_n 0, 1) := by decide +kernel
theorem dX7_charge_98 : decode cX7_charge 98 = .ok (.getfield 7, 3) := by decide +kernel
theorem dX7_charge_101 : decode cX7_charge 101 = .ok (.sipush 183, 3) := by decide +kernel
theorem dX7_charge_104 : decode cX7_charge 104 = .ok (.dup2, 1) := by decide +kernel
theorem dX7_charge_105 : decode cX7_charge 105 = .ok (.iaload, 1) := by decide +kernel
theorem dX7_charge_106 : decode cX7_charge 106 = .ok (.iload 4, 2) := by decide +kernel
theorem dX7_charge_108 : decode cX7_charge 108 = .ok (.iload 5, 2) := by decide +kernel
theorem dX7_charge_110 : decode cX7_charge 110 = .ok (.isub, 1) := by decide +kernel
theorem dX7_charge_111 : decode cX7_charge 111 = .ok (.iadd, 1) := by decide +kernel
theorem dX7_charge_112 : decode cX7_charge 112 = .ok (.iastore, 1) := by decide +kernel
theorem dX7_charge_113 : decode cX7_charge 113 = .ok (.iload_n 2, 1) := by decide +kernel
theorem dX7_charge_114 : decode cX7_charge 114 = .ok (.iload 4, 2) := by decide +kernel
theorem dX7_charge_116 : decode cX7_charge 116 = .ok (.isub, 1) := by decide +kernel
theorem dX7_charge_117 : decode cX7_charge 117 = .ok (.istore_n 2, 1) := by decide +kernel
theorem dX7_charge_118 : decode cX7_charge 118 = .ok (.iinc 3 1, 3) := by decide +kernel
theorem dX7_charge_121 : decode cX7_charge 121 = .ok (.goto (-117), 3) := by decide +kernel
theorem dX7_charge_124 : decode cX7_charge 124 = .ok (.aload_n 0, 1) := by decide +kernel
theorem dX7_charge_125 : decode cX7_charge 125 = .ok (.getfield 7, 3) := by decide +kernel
theorem dX7_charge_128 : decode cX7_charge 128 = .ok (.sipush 184, 3) := by decide +kernel
theorem dX7_charge_131 : decode cX7_charge 131 = .ok (.dup2, 1) := by decide +kernel
theorem dX7_charge_132 : decode cX7_charge 132 = .ok (.iaload, 1) := by decide +kernel
theorem dX7_charge_133 : decode cX7_charge 133 = .ok (.iload_n 2, 1) := by decide +kernel
theorem dX7_charge_134 : decode cX7_charge 134 = .ok (.iadd, 1) := by decide +kernel
theorem dX7_charge_135 : decode cX7_charge 135 = .ok (.iastore, 1) := by decide +kernel
theorem dX7_charge_136 : decode cX7_charge 136 = .ok (.return_, 1) := by decide +kernel
theorem dX7_supplyAt_0 : decode cX7_supplyAt 0 = .ok (.aload_n 0, 1) := by decide +kernel
theorem dX7_supplyAt_1 : decode cX7_supplyAt 1 = .ok (.getfield 7, 3) := by decide +kernel
theorem dX7_supplyAt_4 : decode cX7_supplyAt 4 = .ok (.bipush 124, 2) := by decide +kernel
theorem dX7_supplyAt_6 : decode cX7_supplyAt 6 = .ok (.iload_n 1, 1) := by decide +kernel
theorem dX7_supplyAt_7 : decode cX7_supplyAt 7 = .ok (.aload_n 0, 1) := by decide +kernel
theorem dX7_supplyAt_8 : decode cX7_supplyAt 8 = .ok (.getfield 7, 3) := by decide +kernel
theorem dX7_supplyAt_11 : decode cX7_supplyAt 11 = .ok (.sipush 175, 3) := by decide +kernel
theorem dX7_supplyAt_14 : decode cX7_supplyAt 14 = .ok (.iaload, 1) := by decide +kernel
theorem dX7_supplyAt_15 : decode cX7_supplyAt 15 = .ok (.irem, 1) := by decide +kernel
theorem dX7_supplyAt_16 : decode cX7_supplyAt 16 = .ok (.iadd, 1) := by decide +kernel
theorem dX7_supplyAt_17 : decode cX7_supplyAt 17 = .ok (.iaload, 1) := by decide +kernel
theorem dX7_supplyAt_18 : decode cX7_supplyAt 18 = .ok (.ireturn, 1) := by decide +kernel
theorem dX7_pass_0 : decode cX7_pass 0 = .ok (.aload_n 0, 1) := by decide +kernel
theorem dX7_pass_1 : decode cX7_pass 1 = .ok (.aload_n 0, 1) := by decide +kernel
theorem dX7_pass_2 : decode cX7_pass 2 = .ok (.getfield 7, 3) := by decide +kernel
theorem dX7_pass_5 : decode cX7_pass 5 = .ok (.sipush 174, 3) := by decide +kernel
theorem dX7_pass_8 : decode cX7_pass 8 = .ok (.iaload, 1) := by decide +kernel
theorem dX7_pass_9 : decode cX7_pass 9 = .ok (.invokevirtual 108, 3) := by decide +kernel
theorem dX7_pass_12 : decode cX7_pass 12 = .ok (.istore_n 1, 1) := by decide +kernel
theorem dX7_pass_13 : decode cX7_pass 13 = .ok (.iload_n 1, 1) := by decide +kernel
theorem dX7_pass_14 : decode cX7_pass 14 = .ok (.aload_n 0, 1) := by decide +kernel
theorem dX7_pass_15 : decode cX7_pass 15 = .ok (.iconst 0, 1) := by decide +kernel
theorem dX7_pass_16 : decode cX7_pass 16 = .ok (.invokevirtual 105, 3) := by decide +kernel
theorem dX7_pass_19 : decode cX7_pass 19 = .ok (.iadd, 1) := by decide +kernel
theorem dX7_pass_20 : decode cX7_pass 20 = .ok (.aload_n 0, 1) := by decide +kernel
theorem dX7_pass_21 : decode cX7_pass 21 = .ok (.iconst 1, 1) := by decide +kernel
theorem dX7_pass_22 : decode cX7_pass 22 = .ok (.invokevirtual 105, 3) := by decide +kernel
theorem dX7_pass_25 : decode cX7_pass 25 = .ok (.iadd, 1) := by decide +kernel
theorem dX7_pass_26 : decode cX7_pass 26 = .ok (.istore_n 2, 1) := by decide +kernel
theorem dX7_pass_27 : decode cX7_pass 27 = .ok (.iconst 0, 1) := by decide +kernel
theorem dX7_pass_28 : decode cX7_pass 28 = .ok (.istore_n 3, 1) := by decide +kernel
theorem dX7_pass_29 : decode cX7_pass 29 = .ok (.iload_n 3, 1) := by decide +kernel
theorem dX7_pass_30 : decode cX7_pass 30 = .ok (.aload_n 0, 1) := by decide +kernel
theorem dX7_pass_31 : decode cX7_pass 31 = .ok (.getfield 7, 3) := by decide +kernel
theorem dX7_pass_34 : decode cX7_pass 34 = .ok (.sipush 172, 3) := by decide +kernel
theorem dX7_pass_37 : decode cX7_pass 37 = .ok (.iaload, 1) := by decide +kernel
theorem dX7_pass_38 : decode cX7_pass 38 = .ok (.if_icmp .ge 20, 3) := by decide +kernel
theorem dX7_pass_41 : decode cX7_pass 41 = .ok (.aload_n 0, 1) := by decide +kernel
theorem dX7_pass_42 : decode cX7_pass 42 = .ok (.getfield 25, 3) := by decide +kernel
theorem dX7_pass_45 : decode cX7_pass 45 = .ok (.iload_n 3, 1) := by decide +kernel
theorem dX7_pass_46 : decode cX7_pass 46 = .ok (.aload_n 0, 1) := by decide +kernel
theorem dX7_pass_47 : decode cX7_pass 47 = .ok (.iload_n 3, 1) := by decide +kernel
theorem dX7_pass_48 : decode cX7_pass 48 = .ok (.invokevirtual 102, 3) := by decide +kernel
theorem dX7_pass_51 : decode cX7_pass 51 = .ok (.iastore, 1) := by decide +kernel
theorem dX7_pass_52 : decode cX7_pass 52 = .ok (.iinc 3 1, 3) := by decide +kernel
theorem dX7_pass_55 : decode cX7_pass 55 = .ok (.goto (-26), 3) := by decide +kernel
theorem dX7_pass_58 : decode cX7_pass 58 = .ok (.iconst 0, 1) := by decide +kernel
theorem dX7_pass_59 : decode cX7_pass 59 = .ok (.istore_n 3, 1) := by decide +kernel
theorem dX7_pass_60 : decode cX7_pass 60 = .ok (.iload_n 3, 1) := by decide +kernel
theorem dX7_pass_61 : decode cX7_pass 61 = .ok (.iconst 3, 1) := by decide +kernel
theorem dX7_pass_62 : decode cX7_pass 62 = .ok (.if_icmp .ge 20, 3) := by decide +kernel
theorem dX7_pass_65 : decode cX7_pass 65 = .ok (.aload_n 0, 1) := by decide +kernel
theorem dX7_pass_66 : decode cX7_pass 66 = .ok (.getfield 7, 3) := by decide +kernel
theorem dX7_pass_69 : decode cX7_pass 69 = .ok (.sipush 192, 3) := by decide +kernel
theorem dX7_pass_72 : decode cX7_pass 72 = .ok (.iload_n 3, 1) := by decide +kernel
theorem dX7_pass_73 : decode cX7_pass 73 = .ok (.iadd, 1) := by decide +kernel
theorem dX7_pass_74 : decode cX7_pass 74 = .ok (.iconst 0, 1) := by decide +kernel
theorem dX7_pass_75 : decode cX7_pass 75 = .ok (.iastore, 1) := by decide +kernel
theorem dX7_pass_76 : decode cX7_pass 76 = .ok (.iinc 3 1, 3) := by decide +kernel
theorem dX7_pass_79 : decode cX7_pass 79 = .ok (.goto (-19), 3) := by decide +kernel
theorem dX7_pass_82 : decode cX7_pass 82 = .ok (.iconst 0, 1) := by decide +kernel
theorem dX7_pass_83 : decode cX7_pass 83 = .ok (.istore_n 3, 1) := by decide +kernel
theorem dX7_pass_84 : decode cX7_pass 84 = .ok (.iload_n 3, 1) := by decide +kernel
theorem dX7_pass_85 : decode cX7_pass 85 = .ok (.iconst 2, 1) := by decide +kernel
theorem dX7_pass_86 : decode cX7_pass 86 = .ok (.if_icmp .ge 21, 3) := by decide +kernel
theorem dX7_pass_89 : decode cX7_pass 89 = .ok (.aload_n 0, 1) := by decide +kernel
theorem dX7_pass_90 : decode cX7_pass 90 = .ok (.invokevirtual 111, 3) := by decide +kernel
theorem dX7_pass_93 : decode cX7_pass 93 = .ok (.iload_n 2, 1) := by decide +kernel
theorem dX7_pass_94 : decode cX7_pass 94 = .ok (.if_icmp .le 13, 3) := by decide +kernel
theorem dX7_pass_97 : decode cX7_pass 97 = .ok (.aload_n 0, 1) := by decide +kernel
theorem dX7_pass_98 : decode cX7_pass 98 = .ok (.invokevirtual 114, 3) := by decide +kernel
theorem dX7_pass_101 : decode cX7_pass 101 = .ok (.iinc 3 1, 3) := by decide +kernel
theorem dX7_pass_104 : decode cX7_pass 104 = .ok (.goto (-20), 3) := by decide +kernel
theorem dX7_pass_107 : decode cX7_pass 107 = .ok (.aload_n 0, 1) := by decide +kernel
theorem dX7_pass_108 : decode cX7_pass 108 = .ok (.iload_n 2, 1) := by decide +kernel
theorem dX7_pass_109 : decode cX7_pass 109 = .ok (.invokevirtual 117, 3) := by decide +kernel
theorem dX7_pass_112 : decode cX7_pass 112 = .ok (.istore_n 3, 1) := by decide +kernel
theorem dX7_pass_113 : decode cX7_pass 113 = .ok (.iconst 0, 1) := by decide +kernel
theorem dX7_pass_114 : decode cX7_pass 114 = .ok (.istore 4, 2) := by decide +kernel
theorem dX7_pass_116 : decode cX7_pass 116 = .ok (.iload 4, 2) := by decide +kernel
theorem dX7_pass_118 : decode cX7_pass 118 = .ok (.aload_n 0, 1) := by decide +kernel
theorem dX7_pass_119 : decode cX7_pass 119 = .ok (.getfield 7, 3) := by decide +kernel
theorem dX7_pass_122 : decode cX7_pass 122 = .ok (.sipush 172, 3) := by decide +kernel
theorem dX7_pass_125 : decode cX7_pass 125 = .ok (.iaload, 1) := by decide +kernel
theorem dX7_pass_126 : decode cX7_pass 126 = .ok (.if_icmp .ge 28, 3) := by decide +kernel
theorem dX7_pass_129 : decode cX7_pass 129 = .ok (.aload_n 0, 1) := by decide +kernel
theorem dX7_pass_130 : decode cX7_pass 130 = .ok (.getfield 7, 3) := by decide +kernel
theorem dX7_pass_133 : decode cX7_pass 133 = .ok (.bipush 8, 2) := by decide +kernel
theorem dX7_pass_135 : decode cX7_pass 135 = .ok (.iload 4, 2) := by decide +kernel
theorem dX7_pass_137 : decode cX7_pass 137 = .ok (.imul, 1) := by decide +kernel
theorem dX7_pass_138 : decode cX7_pass 138 = .ok (.bipush 6, 2) := by decide +kernel
theorem dX7_pass_140 : decode cX7_pass 140 = .ok (.iadd, 1) := by decide +kernel
theorem dX7_pass_141 : decode cX7_pass 141 = .ok (.aload_n 0, 1) := by decide +kernel
theorem dX7_pass_142 : decode cX7_pass 142 = .ok (.iload 4, 2) := by decide +kernel
theorem dX7_pass_144 : decode cX7_pass 144 = .ok (.invokevirtual 120, 3) := by decide +kernel
theorem dX7_pass_147 : decode cX7_pass 147 = .ok (.iastore, 1) := by decide +kernel
theorem dX7_pass_148 : decode cX7_pass 148 = .ok (.iinc 4 1, 3) := by decide +kernel
theorem dX7_pass_151 : decode cX7_pass 151 = .ok (.goto (-35), 3) := by decide +kernel
theorem dX7_pass_154 : decode cX7_pass 154 = .ok (.iconst 0, 1) := by decide +kernel
theorem dX7_pass_155 : decode cX7_pass 155 = .ok (.istore 4, 2) := by decide +kernel
theorem dX7_pass_157 : decode cX7_pass 157 = .ok (.iload 4, 2) := by decide +kernel
theorem dX7_pass_159 : decode cX7_pass 159 = .ok (.aload_n 0, 1) := by decide +kernel
theorem dX7_pass_160 : decode cX7_pass 160 = .ok (.getfield 7, 3) := by decide +kernel
theorem dX7_pass_163 : decode cX7_pass 163 = .ok (.sipush 172, 3) := by decide +kernel
theorem dX7_pass_166 : decode cX7_pass 166 = .ok (.iaload, 1) := by decide +kernel
theorem dX7_pass_167 : decode cX7_pass 167 = .ok (.if_icmp .ge 24, 3) := by decide +kernel
theorem dX7_pass_170 : decode cX7_pass 170 = .ok (.aload_n 0, 1) := by decide +kernel
theorem dX7_pass_171 : decode cX7_pass 171 = .ok (.iload 4, 2) := by decide +kernel
theorem dX7_pass_173 : decode cX7_pass 173 = .ok (.iconst 4, 1) := by decide +kernel
theorem dX7_pass_174 : decode cX7_pass 174 = .ok (.aload_n 0, 1) := by decide +kernel
theorem dX7_pass_175 : decode cX7_pass 175 = .ok (.iload 4, 2) := by decide +kernel
theorem dX7_pass_177 : decode cX7_pass 177 = .ok (.iconst 5, 1) := by decide +kernel
theorem dX7_pass_178 : decode cX7_pass 178 = .ok (.invokevirtual 56, 3) := by decide +kernel
theorem dX7_pass_181 : decode cX7_pass 181 = .ok (.ineg, 1) := by decide +kernel
theorem dX7_pass_182 : decode cX7_pass 182 = .ok (.invokevirtual 71, 3) := by decide +kernel
theorem dX7_pass_185 : decode cX7_pass 185 = .ok (.iinc 4 1, 3) := by decide +kernel
theorem dX7_pass_188 : decode cX7_pass 188 = .ok (.goto (-31), 3) := by decide +kernel
theorem dX7_pass_191 : decode cX7_pass 191 = .ok (.iload_n 3, 1) := by decide +kernel
theorem dX7_pass_192 : decode cX7_pass 192 = .ok (.iload_n 1, 1) := by decide +kernel
theorem dX7_pass_193 : decode cX7_pass 193 = .ok (.if_icmp .le 13, 3) := by decide +kernel
theorem dX7_pass_196 : decode cX7_pass 196 = .ok (.aload_n 0, 1) := by decide +kernel
theorem dX7_pass_197 : decode cX7_pass 197 = .ok (.iload_n 3, 1) := by decide +kernel
theorem dX7_pass_198 : decode cX7_pass 198 = .ok (.iload_n 1, 1) := by decide +kernel
theorem dX7_pass_199 : decode cX7_pass 199 = .ok (.isub, 1) := by decide +kernel
theorem dX7_pass_200 : decode cX7_pass 200 = .ok (.invokevirtual 123, 3) := by decide +kernel
theorem dX7_pass_203 : decode cX7_pass 203 = .ok (.goto 10, 3) := by decide +kernel
theorem dX7_pass_206 : decode cX7_pass 206 = .ok (.aload_n 0, 1) := by decide +kernel
theorem dX7_pass_207 : decode cX7_pass 207 = .ok (.iload_n 1, 1) := by decide +kernel
theorem dX7_pass_208 : decode cX7_pass 208 = .ok (.iload_n 3, 1) := by decide +kernel
theorem dX7_pass_209 : decode cX7_pass 209 = .ok (.isub, 1) := by decide +kernel
theorem dX7_pass_210 : decode cX7_pass 210 = .ok (.invokevirtual 127, 3) := by decide +kernel
theorem dX7_pass_213 : decode cX7_pass 213 = .ok (.aload_n 0, 1) := by decide +kernel
theorem dX7_pass_214 : decode cX7_pass 214 = .ok (.getfield 7, 3) := by decide +kernel
theorem dX7_pass_217 : decode cX7_pass 217 = .ok (.sipush 181, 3) := by decide +kernel
theorem dX7_pass_220 : decode cX7_pass 220 = .ok (.dup2, 1) := by decide +kernel
theorem dX7_pass_221 : decode cX7_pass 221 = .ok (.iaload, 1) := by decide +kernel
theorem dX7_pass_222 : decode cX7_pass 222 = .ok (.iload_n 1, 1) := by decide +kernel
theorem dX7_pass_223 : decode cX7_pass 223 = .ok (.iadd, 1) := by decide +kernel
theorem dX7_pass_224 : decode cX7_pass 224 = .ok (.iastore, 1) := by decide +kernel
theorem dX7_pass_225 : decode cX7_pass 225 = .ok (.aload_n 0, 1) := by decide +kernel
theorem dX7_pass_226 : decode cX7_pass 226 = .ok (.getfield 7, 3) := by decide +kernel
theorem dX7_pass_229 : decode cX7_pass 229 = .ok (.sipush 182, 3) := by decide +kernel
theorem dX7_pass_232 : decode cX7_pass 232 = .ok (.dup2, 1) := by decide +kernel
theorem dX7_pass_233 : decode cX7_pass 233 = .ok (.iaload, 1) := by decide +kernel
theorem dX7_pass_234 : decode cX7_pass 234 = .ok (.iload_n 3, 1) := by decide +kernel
theorem dX7_pass_235 : decode cX7_pass 235 = .ok (.iadd, 1) := by decide +kernel
theorem dX7_pass_236 : decode cX7_pass 236 = .ok (.iastore, 1) := by decide +kernel
theorem dX7_pass_237 : decode cX7_pass 237 = .ok (.aload_n 0, 1) := by decide +kernel
theorem dX7_pass_238 : decode cX7_pass 238 = .ok (.getfield 7, 3) := by decide +kernel
theorem dX7_pass_241 : decode cX7_pass 241 = .ok (.sipush 174, 3) := by decide +kernel
theorem dX7_pass_244 : decode cX7_pass 244 = .ok (.dup2, 1) := by decide +kernel
theorem dX7_pass_245 : decode cX7_pass 245 = .ok (.iaload, 1) := by decide +kernel
theorem dX7_pass_246 : decode cX7_pass 246 = .ok (.iconst 1, 1) := by decide +kernel
theorem dX7_pass_247 : decode cX7_pass 247 = .ok (.iadd, 1) := by decide +kernel
theorem dX7_pass_248 : decode cX7_pass 248 = .ok (.iastore, 1) := by decide +kernel
theorem dX7_pass_249 : decode cX7_pass 249 = .ok (.return_, 1) := by decide +kernel
theorem dX7_run_0 : decode cX7_run 0 = .ok (.iload_n 1, 1) := by decide +kernel
theorem dX7_run_1 : decode cX7_run 1 = .ok (.iconst 1, 1) := by decide +kernel
theorem dX7_run_2 : decode cX7_run 2 = .ok (.bipush 100, 2) := by decide +kernel
theorem dX7_run_4 : decode cX7_run 4 = .ok (.invokestatic 31, 3) := by decide +kernel
theorem dX7_run_7 : decode cX7_run 7 = .ok (.ifCond .ne 6, 3) := by decide +kernel
theorem dX7_run_10 : decode cX7_run 10 = .ok (.ldc 43, 2) := by decide +kernel
theorem dX7_run_12 : decode cX7_run 12 = .ok (.ireturn, 1) := by decide +kernel
theorem dX7_run_13 : decode cX7_run 13 = .ok (.aload_n 0, 1) := by decide +kernel
theorem dX7_run_14 : decode cX7_run 14 = .ok (.invokevirtual 45, 3) := by decide +kernel
theorem dX7_run_17 : decode cX7_run 17 = .ok (.aload_n 0, 1) := by decide +kernel
theorem dX7_run_18 : decode cX7_run 18 = .ok (.getfield 7, 3) := by decide +kernel
theorem dX7_run_21 : decode cX7_run 21 = .ok (.sipush 182, 3) := by decide +kernel
theorem dX7_run_24 : decode cX7_run 24 = .ok (.iaload, 1) := by decide +kernel
theorem dX7_run_25 : decode cX7_run 25 = .ok (.istore_n 2, 1) := by decide +kernel
theorem dX7_run_26 : decode cX7_run 26 = .ok (.iconst 0, 1) := by decide +kernel
theorem dX7_run_27 : decode cX7_run 27 = .ok (.istore_n 3, 1) := by decide +kernel
theorem dX7_run_28 : decode cX7_run 28 = .ok (.iload_n 3, 1) := by decide +kernel
theorem dX7_run_29 : decode cX7_run 29 = .ok (.iload_n 1, 1) := by decide +kernel
theorem dX7_run_30 : decode cX7_run 30 = .ok (.if_icmp .ge 13, 3) := by decide +kernel
theorem dX7_run_33 : decode cX7_run 33 = .ok (.aload_n 0, 1) := by decide +kernel
theorem dX7_run_34 : decode cX7_run 34 = .ok (.invokevirtual 130, 3) := by decide +kernel
theorem dX7_run_37 : decode cX7_run 37 = .ok (.iinc 3 1, 3) := by decide +kernel
theorem dX7_run_40 : decode cX7_run 40 = .ok (.goto (-12), 3) := by decide +kernel
theorem dX7_run_43 : decode cX7_run 43 = .ok (.aload_n 0, 1) := by decide +kernel
theorem dX7_run_44 : decode cX7_run 44 = .ok (.getfield 7, 3) := by decide +kernel
theorem dX7_run_47 : decode cX7_run 47 = .ok (.sipush 182, 3) := by decide +kernel
theorem dX7_run_50 : decode cX7_run 50 = .ok (.iaload, 1) := by decide +kernel
theorem dX7_run_51 : decode cX7_run 51 = .ok (.iload_n 2, 1) := by decide +kernel
theorem dX7_run_52 : decode cX7_run 52 = .ok (.isub, 1) := by decide +kernel
theorem dX7_run_53 : decode cX7_run 53 = .ok (.ireturn, 1) := by decide +kernel
theorem dX7_type_0 : decode cX7_type 0 = .ok (.iload_n 1, 1) := by decide +kernel
theorem dX7_type_1 : decode cX7_type 1 = .ok (.bipush 33, 2) := by decide +kernel
theorem dX7_type_3 : decode cX7_type 3 = .ok (.bipush 126, 2) := by decide +kernel
theorem dX7_type_5 : decode cX7_type 5 = .ok (.invokestatic 31, 3) := by decide +kernel
theorem dX7_type_8 : decode cX7_type 8 = .ok (.ifCond .ne 6, 3) := by decide +kernel
theorem dX7_type_11 : decode cX7_type 11 = .ok (.ldc 43, 2) := by decide +kernel
theorem dX7_type_13 : decode cX7_type 13 = .ok (.ireturn, 1) := by decide +kernel
theorem dX7_type_14 : decode cX7_type 14 = .ok (.aload_n 0, 1) := by decide +kernel
theorem dX7_type_15 : decode cX7_type 15 = .ok (.getfield 133, 3) := by decide +kernel
theorem dX7_type_18 : decode cX7_type 18 = .ok (.bipush 60, 2) := by decide +kernel
theorem dX7_type_20 : decode cX7_type 20 = .ok (.if_icmp .ne 6, 3) := by decide +kernel
theorem dX7_type_23 : decode cX7_type 23 = .ok (.ldc 44, 2) := by decide +kernel
theorem dX7_type_25 : decode cX7_type 25 = .ok (.ireturn, 1) := by decide +kernel
theorem dX7_type_26 : decode cX7_type 26 = .ok (.aload_n 0, 1) := by decide +kernel
theorem dX7_type_27 : decode cX7_type 27 = .ok (.getfield 22, 3) := by decide +kernel
theorem dX7_type_30 : decode cX7_type 30 = .ok (.aload_n 0, 1) := by decide +kernel
theorem dX7_type_31 : decode cX7_type 31 = .ok (.getfield 133, 3) := by decide +kernel
theorem dX7_type_34 : decode cX7_type 34 = .ok (.iload_n 1, 1) := by decide +kernel
theorem dX7_type_35 : decode cX7_type 35 = .ok (.iastore, 1) := by decide +kernel
theorem dX7_type_36 : decode cX7_type 36 = .ok (.aload_n 0, 1) := by decide +kernel
theorem dX7_type_37 : decode cX7_type 37 = .ok (.dup, 1) := by decide +kernel
theorem dX7_type_38 : decode cX7_type 38 = .ok (.getfield 133, 3) := by decide +kernel
theorem dX7_type_41 : decode cX7_type 41 = .ok (.iconst 1, 1) := by decide +kernel
theorem dX7_type_42 : decode cX7_type 42 = .ok (.iadd, 1) := by decide +kernel
theorem dX7_type_43 : decode cX7_type 43 = .ok (.putfield 133, 3) := by decide +kernel
theorem dX7_type_46 : decode cX7_type 46 = .ok (.aload_n 0, 1) := by decide +kernel
theorem dX7_type_47 : decode cX7_type 47 = .ok (.getfield 133, 3) := by decide +kernel
theorem dX7_type_50 : decode cX7_type 50 = .ok (.ireturn, 1) := by decide +kernel
theorem dX7_clear_0 : decode cX7_clear 0 = .ok (.aload_n 0, 1) := by decide +kernel
theorem dX7_clear_1 : decode cX7_clear 1 = .ok (.getfield 133, 3) := by decide +kernel
theorem dX7_clear_4 : decode cX7_clear 4 = .ok (.istore_n 1, 1) := by decide +kernel
theorem dX7_clear_5 : decode cX7_clear 5 = .ok (.aload_n 0, 1) := by decide +kernel
theorem dX7_clear_6 : decode cX7_clear 6 = .ok (.iconst 0, 1) := by decide +kernel
theorem dX7_clear_7 : decode cX7_clear 7 = .ok (.putfield 133, 3) := by decide +kernel
theorem dX7_clear_10 : decode cX7_clear 10 = .ok (.iload_n 1, 1) := by decide +kernel
theorem dX7_clear_11 : decode cX7_clear 11 = .ok (.ireturn, 1) := by decide +kernel
theorem dX7_beginItem_0 : decode cX7_beginItem 0 = .ok (.aload_n 0, 1) := by decide +kernel
theorem dX7_beginItem_1 : decode cX7_beginItem 1 = .ok (.iconst 0, 1) := by decide +kernel
theorem dX7_beginItem_2 : decode cX7_beginItem 2 = .ok (.putfield 136, 3) := by decide +kernel
theorem dX7_beginItem_5 : decode cX7_beginItem 5 = .ok (.aload_n 0, 1) := by decide +kernel
theorem dX7_beginItem_6 : decode cX7_beginItem 6 = .ok (.iconst 0, 1) := by decide +kernel
theorem dX7_beginItem_7 : decode cX7_beginItem 7 = .ok (.putfield 139, 3) := by decide +kernel
theorem dX7_beginItem_10 : decode cX7_beginItem 10 = .ok (.aload_n 0, 1) := by decide +kernel
theorem dX7_beginItem_11 : decode cX7_beginItem 11 = .ok (.iconst 1, 1) := by decide +kernel
theorem dX7_beginItem_12 : decode cX7_beginItem 12 = .ok (.putfield 142, 3) := by decide +kernel
theorem dX7_beginItem_15 : decode cX7_beginItem 15 = .ok (.aload_n 0, 1) := by decide +kernel
theorem dX7_beginItem_16 : decode cX7_beginItem 16 = .ok (.iconst (-1), 1) := by decide +kernel
theorem dX7_beginItem_17 : decode cX7_beginItem 17 = .ok (.putfield 145, 3) := by decide +kernel
theorem dX7_beginItem_20 : decode cX7_beginItem 20 = .ok (.return_, 1) := by decide +kernel
theorem dX7_takesDigit_0 : decode cX7_takesDigit 0 = .ok (.aload_n 0, 1) := by decide +kernel
theorem dX7_takesDigit_1 : decode cX7_takesDigit 1 = .ok (.getfield 139, 3) := by decide +kernel
theorem dX7_takesDigit_4 : decode cX7_takesDigit 4 = .ok (.ifCond .eq 10, 3) := by decide +kernel
theorem dX7_takesDigit_7 : decode cX7_takesDigit 7 = .ok (.aload_n 0, 1) := by decide +kernel
theorem dX7_takesDigit_8 : decode cX7_takesDigit 8 = .ok (.getfield 136, 3) := by decide +kernel
theorem dX7_takesDigit_11 : decode cX7_takesDigit 11 = .ok (.ifCond .le 22, 3) := by decide +kernel
theorem dX7_takesDigit_14 : decode cX7_takesDigit 14 = .ok (.bipush 10, 2) := by decide +kernel
theorem dX7_takesDigit_16 : decode cX7_takesDigit 16 = .ok (.aload_n 0, 1) := by decide +kernel
theorem dX7_takesDigit_17 : decode cX7_takesDigit 17 = .ok (.getfield 136, 3) := by decide +kernel
theorem dX7_takesDigit_20 : decode cX7_takesDigit 20 = .ok (.imul, 1) := by decide +kernel
theorem dX7_takesDigit_21 : decode cX7_takesDigit 21 = .ok (.iload_n 1, 1) := by decide +kernel
theorem dX7_takesDigit_22 : decode cX7_takesDigit 22 = .ok (.iadd, 1) := by decide +kernel
theorem dX7_takesDigit_23 : decode cX7_takesDigit 23 = .ok (.sipush 500, 3) := by decide +kernel
theorem dX7_takesDigit_26 : decode cX7_takesDigit 26 = .ok (.if_icmp .gt 7, 3) := by decide +kernel
theorem dX7_takesDigit_29 : decode cX7_takesDigit 29 = .ok (.iconst 1, 1) := by decide +kernel
theorem dX7_takesDigit_30 : decode cX7_takesDigit 30 = .ok (.goto 4, 3) := by decide +kernel
theorem dX7_takesDigit_33 : decode cX7_takesDigit 33 = .ok (.iconst 0, 1) := by decide +kernel
theorem dX7_takesDigit_34 : decode cX7_takesDigit 34 = .ok (.istore_n 2, 1) := by decide +kernel
theorem dX7_takesDigit_35 : decode cX7_takesDigit 35 = .ok (.iload_n 2, 1) := by decide +kernel
theorem dX7_takesDigit_36 : decode cX7_takesDigit 36 = .ok (.ifCond .eq 26, 3) := by decide +kernel
theorem dX7_takesDigit_39 : decode cX7_takesDigit 39 = .ok (.aload_n 0, 1) := by decide +kernel
theorem dX7_takesDigit_40 : decode cX7_takesDigit 40 = .ok (.bipush 10, 2) := by decide +kernel
theorem dX7_takesDigit_42 : decode cX7_takesDigit 42 = .ok (.aload_n 0, 1) := by decide +kernel
theorem dX7_takesDigit_43 : decode cX7_takesDigit 43 = .ok (.getfield 136, 3) := by decide +kernel
theorem dX7_takesDigit_46 : decode cX7_takesDigit 46 = .ok (.imul, 1) := by decide +kernel
theorem dX7_takesDigit_47 : decode cX7_takesDigit 47 = .ok (.iload_n 1, 1) := by decide +kernel
theorem dX7_takesDigit_48 : decode cX7_takesDigit 48 = .ok (.iadd, 1) := by decide +kernel
theorem dX7_takesDigit_49 : decode cX7_takesDigit 49 = .ok (.putfield 136, 3) := by decide +kernel
theorem dX7_takesDigit_52 : decode cX7_takesDigit 52 = .ok (.aload_n 0, 1) := by decide +kernel
theorem dX7_takesDigit_53 : decode cX7_takesDigit 53 = .ok (.dup, 1) := by decide +kernel
theorem dX7_takesDigit_54 : decode cX7_takesDigit 54 = .ok (.getfield 139, 3) := by decide +kernel
theorem dX7_takesDigit_57 : decode cX7_takesDigit 57 = .ok (.iconst 1, 1) := by decide +kernel
theorem dX7_takesDigit_58 : decode cX7_takesDigit 58 = .ok (.iadd, 1) := by decide +kernel
theorem dX7_takesDigit_59 : decode cX7_takesDigit 59 = .ok (.putfield 139, 3) := by decide +kernel
theorem dX7_takesDigit_62 : decode cX7_takesDigit 62 = .ok (.iload_n 2, 1) := by decide +kernel
theorem dX7_takesDigit_63 : decode cX7_takesDigit 63 = .ok (.ireturn, 1) := by decide +kernel
theorem dX7_takesCount_0 : decode cX7_takesCount 0 = .ok (.bipush 48, 2) := by decide +kernel
theorem dX7_takesCount_2 : decode cX7_takesCount 2 = .ok (.aload_n 0, 1) := by decide +kernel
theorem dX7_takesCount_3 : decode cX7_takesCount 3 = .ok (.getfield 148, 3) := by decide +kernel
theorem dX7_takesCount_6 : decode cX7_takesCount 6 = .ok (.isub, 1) := by decide +kernel
theorem dX7_takesCount_7 : decode cX7_takesCount 7 = .ok (.istore_n 2, 1) := by decide +kernel
theorem dX7_takesCount_8 : decode cX7_takesCount 8 = .ok (.aload_n 0, 1) := by decide +kernel
theorem dX7_takesCount_9 : decode cX7_takesCount 9 = .ok (.getfield 145, 3) := by decide +kernel
theorem dX7_takesCount_12 : decode cX7_takesCount 12 = .ok (.ifCond .ne 7, 3) := by decide +kernel
theorem dX7_takesCount_15 : decode cX7_takesCount 15 = .ok (.iload_n 1, 1) := by decide +kernel
theorem dX7_takesCount_16 : decode cX7_takesCount 16 = .ok (.goto 12, 3) := by decide +kernel
theorem dX7_takesCount_19 : decode cX7_takesCount 19 = .ok (.bipush 10, 2) := by decide +kernel
theorem dX7_takesCount_21 : decode cX7_takesCount 21 = .ok (.aload_n 0, 1) := by decide +kernel
theorem dX7_takesCount_22 : decode cX7_takesCount 22 = .ok (.getfield 142, 3) := by decide +kernel
theorem dX7_takesCount_25 : decode cX7_takesCount 25 = .ok (.imul, 1) := by decide +kernel
theorem dX7_takesCount_26 : decode cX7_takesCount 26 = .ok (.iload_n 1, 1) := by decide +kernel
theorem dX7_takesCount_27 : decode cX7_takesCount 27 = .ok (.iadd, 1) := by decide +kernel
theorem dX7_takesCount_28 : decode cX7_takesCount 28 = .ok (.istore_n 3, 1) := by decide +kernel
theorem dX7_takesCount_29 : decode cX7_takesCount 29 = .ok (.iload_n 3, 1) := by decide +kernel
theorem dX7_takesCount_30 : decode cX7_takesCount 30 = .ok (.ifCond .le 26, 3) := by decide +kernel
theorem dX7_takesCount_33 : decode cX7_takesCount 33 = .ok (.iload_n 3, 1) := by decide +kernel
theorem dX7_takesCount_34 : decode cX7_takesCount 34 = .ok (.iconst 1, 1) := by decide +kernel
theorem dX7_takesCount_35 : decode cX7_takesCount 35 = .ok (.if_icmp .ne 12, 3) := by decide +kernel
theorem dX7_takesCount_38 : decode cX7_takesCount 38 = .ok (.bipush 10, 2) := by decide +kernel
theorem dX7_takesCount_40 : decode cX7_takesCount 40 = .ok (.iload_n 2, 1) := by decide +kernel
theorem dX7_takesCount_41 : decode cX7_takesCount 41 = .ok (.if_icmp .gt 15, 3) := by decide +kernel
theorem dX7_takesCount_44 : decode cX7_takesCount 44 = .ok (.goto 8, 3) := by decide +kernel
theorem dX7_takesCount_47 : decode cX7_takesCount 47 = .ok (.iload_n 3, 1) := by decide +kernel
theorem dX7_takesCount_48 : decode cX7_takesCount 48 = .ok (.iload_n 2, 1) := by decide +kernel
theorem dX7_takesCount_49 : decode cX7_takesCount 49 = .ok (.if_icmp .gt 7, 3) := by decide +kernel
theorem dX7_takesCount_52 : decode cX7_takesCount 52 = .ok (.iconst 1, 1) := by decide +kernel
theorem dX7_takesCount_53 : decode cX7_takesCount 53 = .ok (.goto 4, 3) := by decide +kernel
theorem dX7_takesCount_56 : decode cX7_takesCount 56 = .ok (.iconst 0, 1) := by decide +kernel
theorem dX7_takesCount_57 : decode cX7_takesCount 57 = .ok (.istore 4, 2) := by decide +kernel
theorem dX7_takesCount_59 : decode cX7_takesCount 59 = .ok (.iload 4, 2) := by decide +kernel
theorem dX7_takesCount_61 : decode cX7_takesCount 61 = .ok (.ifCond .eq 18, 3) := by decide +kernel
theorem dX7_takesCount_64 : decode cX7_takesCount 64 = .ok (.aload_n 0, 1) := by decide +kernel
theorem dX7_takesCount_65 : decode cX7_takesCount 65 = .ok (.iload_n 3, 1) := by decide +kernel
theorem dX7_takesCount_66 : decode cX7_takesCount 66 = .ok (.putfield 142, 3) := by decide +kernel
theorem dX7_takesCount_69 : decode cX7_takesCount 69 = .ok (.aload_n 0, 1) := by decide +kernel
theorem dX7_takesCount_70 : decode cX7_takesCount 70 = .ok (.dup, 1) := by decide +kernel
theorem dX7_takesCount_71 : decode cX7_takesCount 71 = .ok (.getfield 145, 3) := by decide +kernel
theorem dX7_takesCount_74 : decode cX7_takesCount 74 = .ok (.iconst 1, 1) := by decide +kernel
theorem dX7_takesCount_75 : decode cX7_takesCount 75 = .ok (.iadd, 1) := by decide +kernel
theorem dX7_takesCount_76 : decode cX7_takesCount 76 = .ok (.putfield 145, 3) := by decide +kernel
theorem dX7_takesCount_79 : decode cX7_takesCount 79 = .ok (.iload 4, 2) := by decide +kernel
theorem dX7_takesCount_81 : decode cX7_takesCount 81 = .ok (.ireturn, 1) := by decide +kernel
theorem dX7_isItem_0 : decode cX7_isItem 0 = .ok (.aload_n 0, 1) := by decide +kernel
theorem dX7_isItem_1 : decode cX7_isItem 1 = .ok (.getfield 139, 3) := by decide +kernel
theorem dX7_isItem_4 : decode cX7_isItem 4 = .ok (.ifCond .le 22, 3) := by decide +kernel
theorem dX7_isItem_7 : decode cX7_isItem 7 = .ok (.aload_n 0, 1) := by decide +kernel
theorem dX7_isItem_8 : decode cX7_isItem 8 = .ok (.getfield 145, 3) := by decide +kernel
theorem dX7_isItem_11 : decode cX7_isItem 11 = .ok (.ifCond .lt 11, 3) := by decide +kernel
theorem dX7_isItem_14 : decode cX7_isItem 14 = .ok (.aload_n 0, 1) := by decide +kernel
theorem dX7_isItem_15 : decode cX7_isItem 15 = .ok (.getfield 142, 3) := by decide +kernel
theorem dX7_isItem_18 : decode cX7_isItem 18 = .ok (.iconst 1, 1) := by decide +kernel
theorem dX7_isItem_19 : decode cX7_isItem 19 = .ok (.if_icmp .le 7, 3) := by decide +kernel
theorem dX7_isItem_22 : decode cX7_isItem 22 = .ok (.iconst 1, 1) := by decide +kernel
theorem dX7_isItem_23 : decode cX7_isItem 23 = .ok (.goto 4, 3) := by decide +kernel
theorem dX7_isItem_26 : decode cX7_isItem 26 = .ok (.iconst 0, 1) := by decide +kernel
theorem dX7_isItem_27 : decode cX7_isItem 27 = .ok (.ireturn, 1) := by decide +kernel
theorem dX7_endItem_0 : decode cX7_endItem 0 = .ok (.iconst 0, 1) := by decide +kernel
theorem dX7_endItem_1 : decode cX7_endItem 1 = .ok (.istore_n 1, 1) := by decide +kernel
theorem dX7_endItem_2 : decode cX7_endItem 2 = .ok (.iload_n 1, 1) := by decide +kernel
theorem dX7_endItem_3 : decode cX7_endItem 3 = .ok (.aload_n 0, 1) := by decide +kernel
theorem dX7_endItem_4 : decode cX7_endItem 4 = .ok (.getfield 142, 3) := by decide +kernel
theorem dX7_endItem_7 : decode cX7_endItem 7 = .ok (.if_icmp .ge 32, 3) := by decide +kernel
theorem dX7_endItem_10 : decode cX7_endItem 10 = .ok (.aload_n 0, 1) := by decide +kernel
theorem dX7_endItem_11 : decode cX7_endItem 11 = .ok (.getfield 28, 3) := by decide +kernel
theorem dX7_endItem_14 : decode cX7_endItem 14 = .ok (.aload_n 0, 1) := by decide +kernel
theorem dX7_endItem_15 : decode cX7_endItem 15 = .ok (.getfield 148, 3) := by decide +kernel
theorem dX7_endItem_18 : decode cX7_endItem 18 = .ok (.aload_n 0, 1) := by decide +kernel
theorem dX7_endItem_19 : decode cX7_endItem 19 = .ok (.getfield 136, 3) := by decide +kernel
theorem dX7_endItem_22 : decode cX7_endItem 22 = .ok (.iastore, 1) := by decide +kernel
theorem dX7_endItem_23 : decode cX7_endItem 23 = .ok (.aload_n 0, 1) := by decide +kernel
theorem dX7_endItem_24 : decode cX7_endItem 24 = .ok (.dup, 1) := by decide +kernel
theorem dX7_endItem_25 : decode cX7_endItem 25 = .ok (.getfield 148, 3) := by decide +kernel
theorem dX7_endItem_28 : decode cX7_endItem 28 = .ok (.iconst 1, 1) := by decide +kernel
theorem dX7_endItem_29 : decode cX7_endItem 29 = .ok (.iadd, 1) := by decide +kernel
theorem dX7_endItem_30 : decode cX7_endItem 30 = .ok (.putfield 148, 3) := by decide +kernel
theorem dX7_endItem_33 : decode cX7_endItem 33 = .ok (.iinc 1 1, 3) := by decide +kernel
theorem dX7_endItem_36 : decode cX7_endItem 36 = .ok (.goto (-34), 3) := by decide +kernel
theorem dX7_endItem_39 : decode cX7_endItem 39 = .ok (.aload_n 0, 1) := by decide +kernel
theorem dX7_endItem_40 : decode cX7_endItem 40 = .ok (.invokevirtual 151, 3) := by decide +kernel
theorem dX7_endItem_43 : decode cX7_endItem 43 = .ok (.return_, 1) := by decide +kernel
theorem dX7_takes_0 : decode cX7_takes 0 = .ok (.iload_n 1, 1) := by decide +kernel
theorem dX7_takes_1 : decode cX7_takes 1 = .ok (.bipush 44, 2) := by decide +kernel
theorem dX7_takes_3 : decode cX7_takes 3 = .ok (.if_icmp .ne 40, 3) := by decide +kernel
theorem dX7_takes_6 : decode cX7_takes 6 = .ok (.aload_n 0, 1) := by decide +kernel
theorem dX7_takes_7 : decode cX7_takes 7 = .ok (.invokevirtual 154, 3) := by decide +kernel
theorem dX7_takes_10 : decode cX7_takes 10 = .ok (.ifCond .eq 21, 3) := by decide +kernel
theorem dX7_takes_13 : decode cX7_takes 13 = .ok (.aload_n 0, 1) := by decide +kernel
theorem dX7_takes_14 : decode cX7_takes 14 = .ok (.getfield 148, 3) := by decide +kernel
theorem dX7_takes_17 : decode cX7_takes 17 = .ok (.aload_n 0, 1) := by decide +kernel
theorem dX7_takes_18 : decode cX7_takes 18 = .ok (.getfield 142, 3) := by decide +kernel
theorem dX7_takes_21 : decode cX7_takes 21 = .ok (.iadd, 1) := by decide +kernel
theorem dX7_takes_22 : decode cX7_takes 22 = .ok (.bipush 48, 2) := by decide +kernel
theorem dX7_takes_24 : decode cX7_takes 24 = .ok (.if_icmp .ge 7, 3) := by decide +kernel
theorem dX7_takes_27 : decode cX7_takes 27 = .ok (.iconst 1, 1) := by decide +kernel
theorem dX7_takes_28 : decode cX7_takes 28 = .ok (.goto 4, 3) := by decide +kernel
theorem dX7_takes_31 : decode cX7_takes 31 = .ok (.iconst 0, 1) := by decide +kernel
theorem dX7_takes_32 : decode cX7_takes 32 = .ok (.istore_n 2, 1) := by decide +kernel
theorem dX7_takes_33 : decode cX7_takes 33 = .ok (.iload_n 2, 1) := by decide +kernel
theorem dX7_takes_34 : decode cX7_takes 34 = .ok (.ifCond .eq 7, 3) := by decide +kernel
theorem dX7_takes_37 : decode cX7_takes 37 = .ok (.aload_n 0, 1) := by decide +kernel
theorem dX7_takes_38 : decode cX7_takes 38 = .ok (.invokevirtual 158, 3) := by decide +kernel
theorem dX7_takes_41 : decode cX7_takes 41 = .ok (.iload_n 2, 1) := by decide +kernel
theorem dX7_takes_42 : decode cX7_takes 42 = .ok (.ireturn, 1) := by decide +kernel
theorem dX7_takes_43 : decode cX7_takes 43 = .ok (.iload_n 1, 1) := by decide +kernel
theorem dX7_takes_44 : decode cX7_takes 44 = .ok (.bipush 42, 2) := by decide +kernel
theorem dX7_takes_46 : decode cX7_takes 46 = .ok (.if_icmp .ne 68, 3) := by decide +kernel
theorem dX7_takes_49 : decode cX7_takes 49 = .ok (.aload_n 0, 1) := by decide +kernel
theorem dX7_takes_50 : decode cX7_takes 50 = .ok (.getfield 139, 3) := by decide +kernel
theorem dX7_takes_53 : decode cX7_takes 53 = .ok (.ifCond .le 25, 3) := by decide +kernel
theorem dX7_takes_56 : decode cX7_takes 56 = .ok (.aload_n 0, 1) := by decide +kernel
theorem dX7_takes_57 : decode cX7_takes 57 = .ok (.getfield 145, 3) := by decide +kernel
theorem dX7_takes_60 : decode cX7_takes 60 = .ok (.ifCond .ge 18, 3) := by decide +kernel
theorem dX7_takes_63 : decode cX7_takes 63 = .ok (.aload_n 0, 1) := by decide +kernel
theorem dX7_takes_64 : decode cX7_takes 64 = .ok (.getfield 148, 3) := by decide +kernel
theorem dX7_takes_67 : decode cX7_takes 67 = .ok (.iconst 2, 1) := by decide +kernel
theorem dX7_takes_68 : decode cX7_takes 68 = .ok (.iadd, 1) := by decide +kernel
theorem dX7_takes_69 : decode cX7_takes 69 = .ok (.bipush 48, 2) := by decide +kernel
theorem dX7_takes_71 : decode cX7_takes 71 = .ok (.if_icmp .gt 7, 3) := by decide +kernel
theorem dX7_takes_74 : decode cX7_takes 74 = .ok (.iconst 1, 1) := by decide +kernel
theorem dX7_takes_75 : decode cX7_takes 75 = .ok (.goto 4, 3) := by decide +kernel
theorem dX7_takes_78 : decode cX7_takes 78 = .ok (.iconst 0, 1) := by decide +kernel
theorem dX7_takes_79 : decode cX7_takes 79 = .ok (.istore_n 2, 1) := by decide +kernel
theorem dX7_takes_80 : decode cX7_takes 80 = .ok (.aload_n 0, 1) := by decide +kernel
theorem dX7_takes_81 : decode cX7_takes 81 = .ok (.iload_n 2, 1) := by decide +kernel
theorem dX7_takes_82 : decode cX7_takes 82 = .ok (.ifCond .eq 7, 3) := by decide +kernel
theorem dX7_takes_85 : decode cX7_takes 85 = .ok (.iconst 0, 1) := by decide +kernel
theorem dX7_takes_86 : decode cX7_takes 86 = .ok (.goto 7, 3) := by decide +kernel
theorem dX7_takes_89 : decode cX7_takes 89 = .ok (.aload_n 0, 1) := by decide +kernel
theorem dX7_takes_90 : decode cX7_takes 90 = .ok (.getfield 145, 3) := by decide +kernel
theorem dX7_takes_93 : decode cX7_takes 93 = .ok (.putfield 145, 3) := by decide +kernel
theorem dX7_takes_96 : decode cX7_takes 96 = .ok (.aload_n 0, 1) := by decide +kernel
theorem dX7_takes_97 : decode cX7_takes 97 = .ok (.iload_n 2, 1) := by decide +kernel
theorem dX7_takes_98 : decode cX7_takes 98 = .ok (.ifCond .eq 7, 3) := by decide +kernel
theorem dX7_takes_101 : decode cX7_takes 101 = .ok (.iconst 0, 1) := by decide +kernel
theorem dX7_takes_102 : decode cX7_takes 102 = .ok (.goto 7, 3) := by decide +kernel
theorem dX7_takes_105 : decode cX7_takes 105 = .ok (.aload_n 0, 1) := by decide +kernel
theorem dX7_takes_106 : decode cX7_takes 106 = .ok (.getfield 142, 3) := by decide +kernel
theorem dX7_takes_109 : decode cX7_takes 109 = .ok (.putfield 142, 3) := by decide +kernel
theorem dX7_takes_112 : decode cX7_takes 112 = .ok (.iload_n 2, 1) := by decide +kernel
theorem dX7_takes_113 : decode cX7_takes 113 = .ok (.ireturn, 1) := by decide +kernel
theorem dX7_takes_114 : decode cX7_takes 114 = .ok (.iload_n 1, 1) := by decide +kernel
theorem dX7_takes_115 : decode cX7_takes 115 = .ok (.bipush 48, 2) := by decide +kernel
theorem dX7_takes_117 : decode cX7_takes 117 = .ok (.bipush 57, 2) := by decide +kernel
theorem dX7_takes_119 : decode cX7_takes 119 = .ok (.invokestatic 31, 3) := by decide +kernel
theorem dX7_takes_122 : decode cX7_takes 122 = .ok (.ifCond .ne 5, 3) := by decide +kernel
theorem dX7_takes_125 : decode cX7_takes 125 = .ok (.iconst 0, 1) := by decide +kernel
theorem dX7_takes_126 : decode cX7_takes 126 = .ok (.ireturn, 1) := by decide +kernel
theorem dX7_takes_127 : decode cX7_takes 127 = .ok (.aload_n 0, 1) := by decide +kernel
theorem dX7_takes_128 : decode cX7_takes 128 = .ok (.getfield 145, 3) := by decide +kernel
theorem dX7_takes_131 : decode cX7_takes 131 = .ok (.ifCond .ge 14, 3) := by decide +kernel
theorem dX7_takes_134 : decode cX7_takes 134 = .ok (.aload_n 0, 1) := by decide +kernel
theorem dX7_takes_135 : decode cX7_takes 135 = .ok (.iload_n 1, 1) := by decide +kernel
theorem dX7_takes_136 : decode cX7_takes 136 = .ok (.bipush 48, 2) := by decide +kernel
theorem dX7_takes_138 : decode cX7_takes 138 = .ok (.isub, 1) := by decide +kernel
theorem dX7_takes_139 : decode cX7_takes 139 = .ok (.invokevirtual 161, 3) := by decide +kernel
theorem dX7_takes_142 : decode cX7_takes 142 = .ok (.goto 11, 3) := by decide +kernel
theorem dX7_takes_145 : decode cX7_takes 145 = .ok (.aload_n 0, 1) := by decide +kernel
theorem dX7_takes_146 : decode cX7_takes 146 = .ok (.iload_n 1, 1) := by decide +kernel
theorem dX7_takes_147 : decode cX7_takes 147 = .ok (.bipush 48, 2) := by decide +kernel
theorem dX7_takes_149 : decode cX7_takes 149 = .ok (.isub, 1) := by decide +kernel
theorem dX7_takes_150 : decode cX7_takes 150 = .ok (.invokevirtual 164, 3) := by decide +kernel
theorem dX7_takes_153 : decode cX7_takes 153 = .ok (.ireturn, 1) := by decide +kernel
theorem dX7_faultNow_0 : decode cX7_faultNow 0 = .ok (.aload_n 0, 1) := by decide +kernel
theorem dX7_faultNow_1 : decode cX7_faultNow 1 = .ok (.iconst 0, 1) := by decide +kernel
theorem dX7_faultNow_2 : decode cX7_faultNow 2 = .ok (.putfield 148, 3) := by decide +kernel
theorem dX7_faultNow_5 : decode cX7_faultNow 5 = .ok (.aload_n 0, 1) := by decide +kernel
theorem dX7_faultNow_6 : decode cX7_faultNow 6 = .ok (.invokevirtual 151, 3) := by decide +kernel
theorem dX7_faultNow_9 : decode cX7_faultNow 9 = .ok (.iconst 0, 1) := by decide +kernel
theorem dX7_faultNow_10 : decode cX7_faultNow 10 = .ok (.istore_n 1, 1) := by decide +kernel
theorem dX7_faultNow_11 : decode cX7_faultNow 11 = .ok (.iload_n 1, 1) := by decide +kernel
theorem dX7_faultNow_12 : decode cX7_faultNow 12 = .ok (.aload_n 0, 1) := by decide +kernel
theorem dX7_faultNow_13 : decode cX7_faultNow 13 = .ok (.getfield 133, 3) := by decide +kernel
theorem dX7_faultNow_16 : decode cX7_faultNow 16 = .ok (.if_icmp .ge 22, 3) := by decide +kernel
theorem dX7_faultNow_19 : decode cX7_faultNow 19 = .ok (.aload_n 0, 1) := by decide +kernel
theorem dX7_faultNow_20 : decode cX7_faultNow 20 = .ok (.aload_n 0, 1) := by decide +kernel
theorem dX7_faultNow_21 : decode cX7_faultNow 21 = .ok (.getfield 22, 3) := by decide +kernel
theorem dX7_faultNow_24 : decode cX7_faultNow 24 = .ok (.iload_n 1, 1) := by decide +kernel
theorem dX7_faultNow_25 : decode cX7_faultNow 25 = .ok (.iaload, 1) := by decide +kernel
theorem dX7_faultNow_26 : decode cX7_faultNow 26 = .ok (.invokevirtual 167, 3) := by decide +kernel
theorem dX7_faultNow_29 : decode cX7_faultNow 29 = .ok (.ifCond .eq 9, 3) := by decide +kernel
theorem dX7_faultNow_32 : decode cX7_faultNow 32 = .ok (.iinc 1 1, 3) := by decide +kernel
theorem dX7_faultNow_35 : decode cX7_faultNow 35 = .ok (.goto (-24), 3) := by decide +kernel
theorem dX7_faultNow_38 : decode cX7_faultNow 38 = .ok (.iload_n 1, 1) := by decide +kernel
theorem dX7_faultNow_39 : decode cX7_faultNow 39 = .ok (.aload_n 0, 1) := by decide +kernel
theorem dX7_faultNow_40 : decode cX7_faultNow 40 = .ok (.getfield 133, 3) := by decide +kernel
theorem dX7_faultNow_43 : decode cX7_faultNow 43 = .ok (.if_icmp .lt 10, 3) := by decide +kernel
theorem dX7_faultNow_46 : decode cX7_faultNow 46 = .ok (.aload_n 0, 1) := by decide +kernel
theorem dX7_faultNow_47 : decode cX7_faultNow 47 = .ok (.invokevirtual 154, 3) := by decide +kernel
theorem dX7_faultNow_50 : decode cX7_faultNow 50 = .ok (.ifCond .ne 7, 3) := by decide +kernel
theorem dX7_faultNow_53 : decode cX7_faultNow 53 = .ok (.iload_n 1, 1) := by decide +kernel
theorem dX7_faultNow_54 : decode cX7_faultNow 54 = .ok (.goto 5, 3) := by decide +kernel
theorem dX7_faultNow_57 : decode cX7_faultNow 57 = .ok (.ldc 85, 2) := by decide +kernel
theorem dX7_faultNow_59 : decode cX7_faultNow 59 = .ok (.ireturn, 1) := by decide +kernel
theorem dX7_fault_0 : decode cX7_fault 0 = .ok (.aload_n 0, 1) := by decide +kernel
theorem dX7_fault_1 : decode cX7_fault 1 = .ok (.invokevirtual 170, 3) := by decide +kernel
theorem dX7_fault_4 : decode cX7_fault 4 = .ok (.ireturn, 1) := by decide +kernel
theorem dX7_load_0 : decode cX7_load 0 = .ok (.aload_n 0, 1) := by decide +kernel
theorem dX7_load_1 : decode cX7_load 1 = .ok (.invokevirtual 170, 3) := by decide +kernel
theorem dX7_load_4 : decode cX7_load 4 = .ok (.ldc 85, 2) := by decide +kernel
theorem dX7_load_6 : decode cX7_load 6 = .ok (.if_icmp .eq 6, 3) := by decide +kernel
theorem dX7_load_9 : decode cX7_load 9 = .ok (.ldc 66, 2) := by decide +kernel
theorem dX7_load_11 : decode cX7_load 11 = .ok (.ireturn, 1) := by decide +kernel
theorem dX7_load_12 : decode cX7_load 12 = .ok (.aload_n 0, 1) := by decide +kernel
theorem dX7_load_13 : decode cX7_load 13 = .ok (.invokevirtual 45, 3) := by decide +kernel
theorem dX7_load_16 : decode cX7_load 16 = .ok (.aload_n 0, 1) := by decide +kernel
theorem dX7_load_17 : decode cX7_load 17 = .ok (.invokevirtual 158, 3) := by decide +kernel
theorem dX7_load_20 : decode cX7_load 20 = .ok (.iconst 0, 1) := by decide +kernel
theorem dX7_load_21 : decode cX7_load 21 = .ok (.istore_n 1, 1) := by decide +kernel
theorem dX7_load_22 : decode cX7_load 22 = .ok (.iload_n 1, 1) := by decide +kernel
theorem dX7_load_23 : decode cX7_load 23 = .ok (.aload_n 0, 1) := by decide +kernel
theorem dX7_load_24 : decode cX7_load 24 = .ok (.getfield 148, 3) := by decide +kernel
theorem dX7_load_27 : decode cX7_load 27 = .ok (.if_icmp .ge 24, 3) := by decide +kernel
theorem dX7_load_30 : decode cX7_load 30 = .ok (.aload_n 0, 1) := by decide +kernel
theorem dX7_load_31 : decode cX7_load 31 = .ok (.getfield 7, 3) := by decide +kernel
theorem dX7_load_34 : decode cX7_load 34 = .ok (.bipush 124, 2) := by decide +kernel
theorem dX7_load_36 : decode cX7_load 36 = .ok (.iload_n 1, 1) := by decide +kernel
theorem dX7_load_37 : decode cX7_load 37 = .ok (.iadd, 1) := by decide +kernel
theorem dX7_load_38 : decode cX7_load 38 = .ok (.aload_n 0, 1) := by decide +kernel
theorem dX7_load_39 : decode cX7_load 39 = .ok (.getfield 28, 3) := by decide +kernel
theorem dX7_load_42 : decode cX7_load 42 = .ok (.iload_n 1, 1) := by decide +kernel
theorem dX7_load_43 : decode cX7_load 43 = .ok (.iaload, 1) := by decide +kernel
theorem dX7_load_44 : decode cX7_load 44 = .ok (.iastore, 1) := by decide +kernel
theorem dX7_load_45 : decode cX7_load 45 = .ok (.iinc 1 1, 3) := by decide +kernel
theorem dX7_load_48 : decode cX7_load 48 = .ok (.goto (-26), 3) := by decide +kernel
theorem dX7_load_51 : decode cX7_load 51 = .ok (.aload_n 0, 1) := by decide +kernel
theorem dX7_load_52 : decode cX7_load 52 = .ok (.getfield 7, 3) := by decide +kernel
theorem dX7_load_55 : decode cX7_load 55 = .ok (.sipush 175, 3) := by decide +kernel
theorem dX7_load_58 : decode cX7_load 58 = .ok (.aload_n 0, 1) := by decide +kernel
theorem dX7_load_59 : decode cX7_load 59 = .ok (.getfield 148, 3) := by decide +kernel
theorem dX7_load_62 : decode cX7_load 62 = .ok (.iastore, 1) := by decide +kernel
theorem dX7_load_63 : decode cX7_load 63 = .ok (.aload_n 0, 1) := by decide +kernel
theorem dX7_load_64 : decode cX7_load 64 = .ok (.iconst 0, 1) := by decide +kernel
theorem dX7_load_65 : decode cX7_load 65 = .ok (.putfield 133, 3) := by decide +kernel
theorem dX7_load_68 : decode cX7_load 68 = .ok (.aload_n 0, 1) := by decide +kernel
theorem dX7_load_69 : decode cX7_load 69 = .ok (.getfield 148, 3) := by decide +kernel
theorem dX7_load_72 : decode cX7_load 72 = .ok (.ireturn, 1) := by decide +kernel
theorem dX7_undo_0 : decode cX7_undo 0 = .ok (.aload_n 0, 1) := by decide +kernel
theorem dX7_undo_1 : decode cX7_undo 1 = .ok (.getfield 35, 3) := by decide +kernel
theorem dX7_undo_4 : decode cX7_undo 4 = .ok (.ifCond .ne 6, 3) := by decide +kernel
theorem dX7_undo_7 : decode cX7_undo 7 = .ok (.ldc 66, 2) := by decide +kernel
theorem dX7_undo_9 : decode cX7_undo 9 = .ok (.ireturn, 1) := by decide +kernel
theorem dX7_undo_10 : decode cX7_undo 10 = .ok (.aload_n 0, 1) := by decide +kernel
theorem dX7_undo_11 : decode cX7_undo 11 = .ok (.dup, 1) := by decide +kernel
theorem dX7_undo_12 : decode cX7_undo 12 = .ok (.getfield 35, 3) := by decide +kernel
theorem dX7_undo_15 : decode cX7_undo 15 = .ok (.iconst 1, 1) := by decide +kernel
theorem dX7_undo_16 : decode cX7_undo 16 = .ok (.isub, 1) := by decide +kernel
theorem dX7_undo_17 : decode cX7_undo 17 = .ok (.putfield 35, 3) := by decide +kernel
theorem dX7_undo_20 : decode cX7_undo 20 = .ok (.aload_n 0, 1) := by decide +kernel
theorem dX7_undo_21 : decode cX7_undo 21 = .ok (.aload_n 0, 1) := by decide +kernel
theorem dX7_undo_22 : decode cX7_undo 22 = .ok (.getfield 16, 3) := by decide +kernel
theorem dX7_undo_25 : decode cX7_undo 25 = .ok (.sipush 198, 3) := by decide +kernel
theorem dX7_undo_28 : decode cX7_undo 28 = .ok (.aload_n 0, 1) := by decide +kernel
theorem dX7_undo_29 : decode cX7_undo 29 = .ok (.getfield 35, 3) := by decide +kernel
theorem dX7_undo_32 : decode cX7_undo 32 = .ok (.imul, 1) := by decide +kernel
theorem dX7_undo_33 : decode cX7_undo 33 = .ok (.aload_n 0, 1) := by decide +kernel
theorem dX7_undo_34 : decode cX7_undo 34 = .ok (.getfield 7, 3) := by decide +kernel
theorem dX7_undo_37 : decode cX7_undo 37 = .ok (.iconst 0, 1) := by decide +kernel
theorem dX7_undo_38 : decode cX7_undo 38 = .ok (.invokevirtual 39, 3) := by decide +kernel
theorem dX7_undo_41 : decode cX7_undo 41 = .ok (.aload_n 0, 1) := by decide +kernel
theorem dX7_undo_42 : decode cX7_undo 42 = .ok (.getfield 35, 3) := by decide +kernel
theorem dX7_undo_45 : decode cX7_undo 45 = .ok (.ireturn, 1) := by decide +kernel
theorem dX7_keep_0 : decode cX7_keep 0 = .ok (.iload_n 1, 1) := by decide +kernel
theorem dX7_keep_1 : decode cX7_keep 1 = .ok (.iconst 0, 1) := by decide +kernel
theorem dX7_keep_2 : decode cX7_keep 2 = .ok (.iconst 1, 1) := by decide +kernel
theorem dX7_keep_3 : decode cX7_keep 3 = .ok (.invokestatic 31, 3) := by decide +kernel
theorem dX7_keep_6 : decode cX7_keep 6 = .ok (.ifCond .ne 6, 3) := by decide +kernel
theorem dX7_keep_9 : decode cX7_keep 9 = .ok (.ldc 43, 2) := by decide +kernel
theorem dX7_keep_11 : decode cX7_keep 11 = .ok (.ireturn, 1) := by decide +kernel
theorem dX7_keep_12 : decode cX7_keep 12 = .ok (.aload_n 0, 1) := by decide +kernel
theorem dX7_keep_13 : decode cX7_keep 13 = .ok (.aload_n 0, 1) := by decide +kernel
theorem dX7_keep_14 : decode cX7_keep 14 = .ok (.getfield 7, 3) := by decide +kernel
theorem dX7_keep_17 : decode cX7_keep 17 = .ok (.iconst 0, 1) := by decide +kernel
theorem dX7_keep_18 : decode cX7_keep 18 = .ok (.aload_n 0, 1) := by decide +kernel
theorem dX7_keep_19 : decode cX7_keep 19 = .ok (.getfield 19, 3) := by decide +kernel
theorem dX7_keep_22 : decode cX7_keep 22 = .ok (.sipush 198, 3) := by decide +kernel
theorem dX7_keep_25 : decode cX7_keep 25 = .ok (.iload_n 1, 1) := by decide +kernel
theorem dX7_keep_26 : decode cX7_keep 26 = .ok (.imul, 1) := by decide +kernel
theorem dX7_keep_27 : decode cX7_keep 27 = .ok (.invokevirtual 39, 3) := by decide +kernel
theorem dX7_keep_30 : decode cX7_keep 30 = .ok (.aload_n 0, 1) := by decide +kernel
theorem dX7_keep_31 : decode cX7_keep 31 = .ok (.dup, 1) := by decide +kernel
theorem dX7_keep_32 : decode cX7_keep 32 = .ok (.getfield 173, 3) := by decide +kernel
theorem dX7_keep_35 : decode cX7_keep 35 = .ok (.iconst 1, 1) := by decide +kernel
theorem dX7_keep_36 : decode cX7_keep 36 = .ok (.iload_n 1, 1) := by decide +kernel
theorem dX7_keep_37 : decode cX7_keep 37 = .ok (.ishl, 1) := by decide +kernel
theorem dX7_keep_38 : decode cX7_keep 38 = .ok (.ior, 1) := by decide +kernel
theorem dX7_keep_39 : decode cX7_keep 39 = .ok (.putfield 173, 3) := by decide +kernel
theorem dX7_keep_42 : decode cX7_keep 42 = .ok (.aload_n 0, 1) := by decide +kernel
theorem dX7_keep_43 : decode cX7_keep 43 = .ok (.getfield 7, 3) := by decide +kernel
theorem dX7_keep_46 : decode cX7_keep 46 = .ok (.sipush 174, 3) := by decide +kernel
theorem dX7_keep_49 : decode cX7_keep 49 = .ok (.iaload, 1) := by decide +kernel
theorem dX7_keep_50 : decode cX7_keep 50 = .ok (.ireturn, 1) := by decide +kernel
theorem dX7_back_0 : decode cX7_back 0 = .ok (.iload_n 1, 1) := by decide +kernel
theorem dX7_back_1 : decode cX7_back 1 = .ok (.iconst 0, 1) := by decide +kernel
theorem dX7_back_2 : decode cX7_back 2 = .ok (.iconst 1, 1) := by decide +kernel
theorem dX7_back_3 : decode cX7_back 3 = .ok (.invokestatic 31, 3) := by decide +kernel
theorem dX7_back_6 : decode cX7_back 6 = .ok (.ifCond .ne 6, 3) := by decide +kernel
theorem dX7_back_9 : decode cX7_back 9 = .ok (.ldc 43, 2) := by decide +kernel
theorem dX7_back_11 : decode cX7_back 11 = .ok (.ireturn, 1) := by decide +kernel
theorem dX7_back_12 : decode cX7_back 12 = .ok (.aload_n 0, 1) := by decide +kernel
theorem dX7_back_13 : decode cX7_back 13 = .ok (.getfield 173, 3) := by decide +kernel
theorem dX7_back_16 : decode cX7_back 16 = .ok (.iload_n 1, 1) := by decide +kernel
theorem dX7_back_17 : decode cX7_back 17 = .ok (.ishr, 1) := by decide +kernel
theorem dX7_back_18 : decode cX7_back 18 = .ok (.iconst 1, 1) := by decide +kernel
theorem dX7_back_19 : decode cX7_back 19 = .ok (.iand, 1) := by decide +kernel
theorem dX7_back_20 : decode cX7_back 20 = .ok (.ifCond .ne 6, 3) := by decide +kernel
theorem dX7_back_23 : decode cX7_back 23 = .ok (.ldc 66, 2) := by decide +kernel
theorem dX7_back_25 : decode cX7_back 25 = .ok (.ireturn, 1) := by decide +kernel
theorem dX7_back_26 : decode cX7_back 26 = .ok (.aload_n 0, 1) := by decide +kernel
theorem dX7_back_27 : decode cX7_back 27 = .ok (.invokevirtual 45, 3) := by decide +kernel
theorem dX7_back_30 : decode cX7_back 30 = .ok (.aload_n 0, 1) := by decide +kernel
theorem dX7_back_31 : decode cX7_back 31 = .ok (.aload_n 0, 1) := by decide +kernel
theorem dX7_back_32 : decode cX7_back 32 = .ok (.getfield 19, 3) := by decide +kernel
theorem dX7_back_35 : decode cX7_back 35 = .ok (.sipush 198, 3) := by decide +kernel
theorem dX7_back_38 : decode cX7_back 38 = .ok (.iload_n 1, 1) := by decide +kernel
theorem dX7_back_39 : decode cX7_back 39 = .ok (.imul, 1) := by decide +kernel
theorem dX7_back_40 : decode cX7_back 40 = .ok (.aload_n 0, 1) := by decide +kernel
theorem dX7_back_41 : decode cX7_back 41 = .ok (.getfield 7, 3) := by decide +kernel
theorem dX7_back_44 : decode cX7_back 44 = .ok (.iconst 0, 1) := by decide +kernel
theorem dX7_back_45 : decode cX7_back 45 = .ok (.invokevirtual 39, 3) := by decide +kernel
theorem dX7_back_48 : decode cX7_back 48 = .ok (.aload_n 0, 1) := by decide +kernel
theorem dX7_back_49 : decode cX7_back 49 = .ok (.getfield 7, 3) := by decide +kernel
theorem dX7_back_52 : decode cX7_back 52 = .ok (.sipush 174, 3) := by decide +kernel
theorem dX7_back_55 : decode cX7_back 55 = .ok (.iaload, 1) := by decide +kernel
theorem dX7_back_56 : decode cX7_back 56 = .ok (.ireturn, 1) := by decide +kernel
theorem dX7_houseNow_0 : decode cX7_houseNow 0 = .ok (.iload_n 2, 1) := by decide +kernel
theorem dX7_houseNow_1 : decode cX7_houseNow 1 = .ok (.tableswitch 84 0 9 #[55, 55, 55, 55, 55, 62, 68, 68, 68, 77], 55) := by decide +kernel
theorem dX7_houseNow_56 : decode cX7_houseNow 56 = .ok (.aload_n 0, 1) := by decide +kernel
theorem dX7_houseNow_57 : decode cX7_houseNow 57 = .ok (.iload_n 1, 1) := by decide +kernel
theorem dX7_houseNow_58 : decode cX7_houseNow 58 = .ok (.iload_n 2, 1) := by decide +kernel
theorem dX7_houseNow_59 : decode cX7_houseNow 59 = .ok (.invokevirtual 56, 3) := by decide +kernel
theorem dX7_houseNow_62 : decode cX7_houseNow 62 = .ok (.ireturn, 1) := by decide +kernel
theorem dX7_houseNow_63 : decode cX7_houseNow 63 = .ok (.aload_n 0, 1) := by decide +kernel
theorem dX7_houseNow_64 : decode cX7_houseNow 64 = .ok (.iload_n 1, 1) := by decide +kernel
theorem dX7_houseNow_65 : decode cX7_houseNow 65 = .ok (.invokevirtual 102, 3) := by decide +kernel
theorem dX7_houseNow_68 : decode cX7_houseNow 68 = .ok (.ireturn, 1) := by decide +kernel
theorem dX7_houseNow_69 : decode cX7_houseNow 69 = .ok (.aload_n 0, 1) := by decide +kernel
theorem dX7_houseNow_70 : decode cX7_houseNow 70 = .ok (.iload_n 1, 1) := by decide +kernel
theorem dX7_houseNow_71 : decode cX7_houseNow 71 = .ok (.iload_n 2, 1) := by decide +kernel
theorem dX7_houseNow_72 : decode cX7_houseNow 72 = .ok (.iconst 1, 1) := by decide +kernel
theorem dX7_houseNow_73 : decode cX7_houseNow 73 = .ok (.isub, 1) := by decide +kernel
theorem dX7_houseNow_74 : decode cX7_houseNow 74 = .ok (.invokevirtual 56, 3) := by decide +kernel
theorem dX7_houseNow_77 : decode cX7_houseNow 77 = .ok (.ireturn, 1) := by decide +kernel
theorem dX7_houseNow_78 : decode cX7_houseNow 78 = .ok (.aload_n 0, 1) := by decide +kernel
theorem dX7_houseNow_79 : decode cX7_houseNow 79 = .ok (.iload_n 1, 1) := by decide +kernel
theorem dX7_houseNow_80 : decode cX7_houseNow 80 = .ok (.iconst 1, 1) := by decide +kernel
theorem dX7_houseNow_81 : decode cX7_houseNow 81 = .ok (.invokevirtual 63, 3) := by decide +kernel
theorem dX7_houseNow_84 : decode cX7_houseNow 84 = .ok (.ireturn, 1) := by decide +kernel
theorem dX7_houseNow_85 : decode cX7_houseNow 85 = .ok (.aload_n 0, 1) := by decide +kernel
theorem dX7_houseNow_86 : decode cX7_houseNow 86 = .ok (.iload_n 1, 1) := by decide +kernel
theorem dX7_houseNow_87 : decode cX7_houseNow 87 = .ok (.iconst 0, 1) := by decide +kernel
theorem dX7_houseNow_88 : decode cX7_houseNow 88 = .ok (.invokevirtual 63, 3) := by decide +kernel
theorem dX7_houseNow_91 : decode cX7_houseNow 91 = .ok (.ireturn, 1) := by decide +kernel
theorem dX7_house_0 : decode cX7_house 0 = .ok (.aload_n 0, 1) := by decide +kernel
theorem dX7_house_1 : decode cX7_house 1 = .ok (.iload_n 1, 1) := by decide +kernel
theorem dX7_house_2 : decode cX7_house 2 = .ok (.invokevirtual 48, 3) := by decide +kernel
theorem dX7_house_5 : decode cX7_house 5 = .ok (.ifCond .eq 22, 3) := by decide +kernel
theorem dX7_house_8 : decode cX7_house 8 = .ok (.iload_n 2, 1) := by decide +kernel
theorem dX7_house_9 : decode cX7_house 9 = .ok (.iconst 0, 1) := by decide +kernel
theorem dX7_house_10 : decode cX7_house 10 = .ok (.bipush 10, 2) := by decide +kernel
theorem dX7_house_12 : decode cX7_house 12 = .ok (.invokestatic 31, 3) := by decide +kernel
theorem dX7_house_15 : decode cX7_house 15 = .ok (.ifCond .eq 12, 3) := by decide +kernel
theorem dX7_house_18 : decode cX7_house 18 = .ok (.aload_n 0, 1) := by decide +kernel
theorem dX7_house_19 : decode cX7_house 19 = .ok (.iload_n 1, 1) := by decide +kernel
theorem dX7_house_20 : decode cX7_house 20 = .ok (.iload_n 2, 1) := by decide +kernel
theorem dX7_house_21 : decode cX7_house 21 = .ok (.invokevirtual 176, 3) := by decide +kernel
theorem dX7_house_24 : decode cX7_house 24 = .ok (.goto 5, 3) := by decide +kernel
theorem dX7_house_27 : decode cX7_house 27 = .ok (.ldc 43, 2) := by decide +kernel
theorem dX7_house_29 : decode cX7_house 29 = .ok (.ireturn, 1) := by decide +kernel
theorem dX7_loan_0 : decode cX7_loan 0 = .ok (.aload_n 0, 1) := by decide +kernel
theorem dX7_loan_1 : decode cX7_loan 1 = .ok (.iload_n 1, 1) := by decide +kernel
theorem dX7_loan_2 : decode cX7_loan 2 = .ok (.invokevirtual 82, 3) := by decide +kernel
theorem dX7_loan_5 : decode cX7_loan 5 = .ok (.ifCond .eq 21, 3) := by decide +kernel
theorem dX7_loan_8 : decode cX7_loan 8 = .ok (.iload_n 2, 1) := by decide +kernel
theorem dX7_loan_9 : decode cX7_loan 9 = .ok (.iconst 0, 1) := by decide +kernel
theorem dX7_loan_10 : decode cX7_loan 10 = .ok (.iconst 2, 1) := by decide +kernel
theorem dX7_loan_11 : decode cX7_loan 11 = .ok (.invokestatic 31, 3) := by decide +kernel
theorem dX7_loan_14 : decode cX7_loan 14 = .ok (.ifCond .eq 12, 3) := by decide +kernel
theorem dX7_loan_17 : decode cX7_loan 17 = .ok (.aload_n 0, 1) := by decide +kernel
theorem dX7_loan_18 : decode cX7_loan 18 = .ok (.iload_n 1, 1) := by decide +kernel
theorem dX7_loan_19 : decode cX7_loan 19 = .ok (.iload_n 2, 1) := by decide +kernel
theorem dX7_loan_20 : decode cX7_loan 20 = .ok (.invokevirtual 60, 3) := by decide +kernel
theorem dX7_loan_23 : decode cX7_loan 23 = .ok (.goto 5, 3) := by decide +kernel
theorem dX7_loan_26 : decode cX7_loan 26 = .ok (.ldc 43, 2) := by decide +kernel
theorem dX7_loan_28 : decode cX7_loan 28 = .ok (.ireturn, 1) := by decide +kernel
theorem dX7_batteryNow_0 : decode cX7_batteryNow 0 = .ok (.iload_n 2, 1) := by decide +kernel
theorem dX7_batteryNow_1 : decode cX7_batteryNow 1 = .ok (.iconst 4, 1) := by decide +kernel
theorem dX7_batteryNow_2 : decode cX7_batteryNow 2 = .ok (.if_icmp .ne 11, 3) := by decide +kernel
theorem dX7_batteryNow_5 : decode cX7_batteryNow 5 = .ok (.aload_n 0, 1) := by decide +kernel
theorem dX7_batteryNow_6 : decode cX7_batteryNow 6 = .ok (.iload_n 1, 1) := by decide +kernel
theorem dX7_batteryNow_7 : decode cX7_batteryNow 7 = .ok (.invokevirtual 105, 3) := by decide +kernel
theorem dX7_batteryNow_10 : decode cX7_batteryNow 10 = .ok (.goto 9, 3) := by decide +kernel
theorem dX7_batteryNow_13 : decode cX7_batteryNow 13 = .ok (.aload_n 0, 1) := by decide +kernel
theorem dX7_batteryNow_14 : decode cX7_batteryNow 14 = .ok (.iload_n 1, 1) := by decide +kernel
theorem dX7_batteryNow_15 : decode cX7_batteryNow 15 = .ok (.iload_n 2, 1) := by decide +kernel
theorem dX7_batteryNow_16 : decode cX7_batteryNow 16 = .ok (.invokevirtual 99, 3) := by decide +kernel
theorem dX7_batteryNow_19 : decode cX7_batteryNow 19 = .ok (.ireturn, 1) := by decide +kernel
theorem dX7_battery_0 : decode cX7_battery 0 = .ok (.iload_n 1, 1) := by decide +kernel
theorem dX7_battery_1 : decode cX7_battery 1 = .ok (.iconst 0, 1) := by decide +kernel
theorem dX7_battery_2 : decode cX7_battery 2 = .ok (.iconst 1, 1) := by decide +kernel
theorem dX7_battery_3 : decode cX7_battery 3 = .ok (.invokestatic 31, 3) := by decide +kernel
theorem dX7_battery_6 : decode cX7_battery 6 = .ok (.ifCond .eq 21, 3) := by decide +kernel
theorem dX7_battery_9 : decode cX7_battery 9 = .ok (.iload_n 2, 1) := by decide +kernel
theorem dX7_battery_10 : decode cX7_battery 10 = .ok (.iconst 0, 1) := by decide +kernel
theorem dX7_battery_11 : decode cX7_battery 11 = .ok (.iconst 4, 1) := by decide +kernel
theorem dX7_battery_12 : decode cX7_battery 12 = .ok (.invokestatic 31, 3) := by decide +kernel
theorem dX7_battery_15 : decode cX7_battery 15 = .ok (.ifCond .eq 12, 3) := by decide +kernel
theorem dX7_battery_18 : decode cX7_battery 18 = .ok (.aload_n 0, 1) := by decide +kernel
theorem dX7_battery_19 : decode cX7_battery 19 = .ok (.iload_n 1, 1) := by decide +kernel
theorem dX7_battery_20 : decode cX7_battery 20 = .ok (.iload_n 2, 1) := by decide +kernel
theorem dX7_battery_21 : decode cX7_battery 21 = .ok (.invokevirtual 179, 3) := by decide +kernel
theorem dX7_battery_24 : decode cX7_battery 24 = .ok (.goto 5, 3) := by decide +kernel
theorem dX7_battery_27 : decode cX7_battery 27 = .ok (.ldc 43, 2) := by decide +kernel
theorem dX7_battery_29 : decode cX7_battery 29 = .ok (.ireturn, 1) := by decide +kernel
theorem dX7_ofHouses_0 : decode cX7_ofHouses 0 = .ok (.iconst 0, 1) := by decide +kernel
theorem dX7_ofHouses_1 : decode cX7_ofHouses 1 = .ok (.istore_n 3, 1) := by decide +kernel
theorem dX7_ofHouses_2 : decode cX7_ofHouses 2 = .ok (.iconst 0, 1) := by decide +kernel
theorem dX7_ofHouses_3 : decode cX7_ofHouses 3 = .ok (.istore 4, 2) := by decide +kernel
theorem dX7_ofHouses_5 : decode cX7_ofHouses 5 = .ok (.iload 4, 2) := by decide +kernel
theorem dX7_ofHouses_7 : decode cX7_ofHouses 7 = .ok (.aload_n 0, 1) := by decide +kernel
theorem dX7_ofHouses_8 : decode cX7_ofHouses 8 = .ok (.getfield 7, 3) := by decide +kernel
theorem dX7_ofHouses_11 : decode cX7_ofHouses 11 = .ok (.sipush 172, 3) := by decide +kernel
theorem dX7_ofHouses_14 : decode cX7_ofHouses 14 = .ok (.iaload, 1) := by decide +kernel
theorem dX7_ofHouses_15 : decode cX7_ofHouses 15 = .ok (.if_icmp .ge 52, 3) := by decide +kernel
theorem dX7_ofHouses_18 : decode cX7_ofHouses 18 = .ok (.aload_n 0, 1) := by decide +kernel
theorem dX7_ofHouses_19 : decode cX7_ofHouses 19 = .ok (.iload 4, 2) := by decide +kernel
theorem dX7_ofHouses_21 : decode cX7_ofHouses 21 = .ok (.iconst 0, 1) := by decide +kernel
theorem dX7_ofHouses_22 : decode cX7_ofHouses 22 = .ok (.invokevirtual 56, 3) := by decide +kernel
theorem dX7_ofHouses_25 : decode cX7_ofHouses 25 = .ok (.iload_n 1, 1) := by decide +kernel
theorem dX7_ofHouses_26 : decode cX7_ofHouses 26 = .ok (.if_icmp .ne 35, 3) := by decide +kernel
theorem dX7_ofHouses_29 : decode cX7_ofHouses 29 = .ok (.iload_n 3, 1) := by decide +kernel
theorem dX7_ofHouses_30 : decode cX7_ofHouses 30 = .ok (.iload_n 2, 1) := by decide +kernel
theorem dX7_ofHouses_31 : decode cX7_ofHouses 31 = .ok (.ifCond .ne 7, 3) := by decide +kernel
theorem dX7_ofHouses_34 : decode cX7_ofHouses 34 = .ok (.iconst 1, 1) := by decide +kernel
theorem dX7_ofHouses_35 : decode cX7_ofHouses 35 = .ok (.goto 24, 3) := by decide +kernel
theorem dX7_ofHouses_38 : decode cX7_ofHouses 38 = .ok (.iload_n 2, 1) := by decide +kernel
theorem dX7_ofHouses_39 : decode cX7_ofHouses 39 = .ok (.iconst 1, 1) := by decide +kernel
theorem dX7_ofHouses_40 : decode cX7_ofHouses 40 = .ok (.if_icmp .ne 12, 3) := by decide +kernel
theorem dX7_ofHouses_43 : decode cX7_ofHouses 43 = .ok (.aload_n 0, 1) := by decide +kernel
theorem dX7_ofHouses_44 : decode cX7_ofHouses 44 = .ok (.iload 4, 2) := by decide +kernel
theorem dX7_ofHouses_46 : decode cX7_ofHouses 46 = .ok (.invokevirtual 102, 3) := by decide +kernel
theorem dX7_ofHouses_49 : decode cX7_ofHouses 49 = .ok (.goto 10, 3) := by decide +kernel
theorem dX7_ofHouses_52 : decode cX7_ofHouses 52 = .ok (.aload_n 0, 1) := by decide +kernel
theorem dX7_ofHouses_53 : decode cX7_ofHouses 53 = .ok (.iload 4, 2) := by decide +kernel
theorem dX7_ofHouses_55 : decode cX7_ofHouses 55 = .ok (.iconst 4, 1) := by decide +kernel
theorem dX7_ofHouses_56 : decode cX7_ofHouses 56 = .ok (.invokevirtual 56, 3) := by decide +kernel
theorem dX7_ofHouses_59 : decode cX7_ofHouses 59 = .ok (.iadd, 1) := by decide +kernel
theorem dX7_ofHouses_60 : decode cX7_ofHouses 60 = .ok (.istore_n 3, 1) := by decide +kernel
theorem dX7_ofHouses_61 : decode cX7_ofHouses 61 = .ok (.iinc 4 1, 3) := by decide +kernel
theorem dX7_ofHouses_64 : decode cX7_ofHouses 64 = .ok (.goto (-59), 3) := by decide +kernel
theorem dX7_ofHouses_67 : decode cX7_ofHouses 67 = .ok (.iload_n 3, 1) := by decide +kernel
theorem dX7_ofHouses_68 : decode cX7_ofHouses 68 = .ok (.ireturn, 1) := by decide +kernel
theorem dX7_feederNow_0 : decode cX7_feederNow 0 = .ok (.iload_n 2, 1) := by decide +kernel
theorem dX7_feederNow_1 : decode cX7_feederNow 1 = .ok (.iconst 3, 1) := by decide +kernel
theorem dX7_feederNow_2 : decode cX7_feederNow 2 = .ok (.if_icmp .ge 12, 3) := by decide +kernel
theorem dX7_feederNow_5 : decode cX7_feederNow 5 = .ok (.aload_n 0, 1) := by decide +kernel
theorem dX7_feederNow_6 : decode cX7_feederNow 6 = .ok (.iload_n 1, 1) := by decide +kernel
theorem dX7_feederNow_7 : decode cX7_feederNow 7 = .ok (.iload_n 2, 1) := by decide +kernel
theorem dX7_feederNow_8 : decode cX7_feederNow 8 = .ok (.invokevirtual 182, 3) := by decide +kernel
theorem dX7_feederNow_11 : decode cX7_feederNow 11 = .ok (.goto 31, 3) := by decide +kernel
theorem dX7_feederNow_14 : decode cX7_feederNow 14 = .ok (.iload_n 2, 1) := by decide +kernel
theorem dX7_feederNow_15 : decode cX7_feederNow 15 = .ok (.iconst 3, 1) := by decide +kernel
theorem dX7_feederNow_16 : decode cX7_feederNow 16 = .ok (.if_icmp .ne 16, 3) := by decide +kernel
theorem dX7_feederNow_19 : decode cX7_feederNow 19 = .ok (.aload_n 0, 1) := by decide +kernel
theorem dX7_feederNow_20 : decode cX7_feederNow 20 = .ok (.getfield 7, 3) := by decide +kernel
theorem dX7_feederNow_23 : decode cX7_feederNow 23 = .ok (.sipush 189, 3) := by decide +kernel
theorem dX7_feederNow_26 : decode cX7_feederNow 26 = .ok (.iload_n 1, 1) := by decide +kernel
theorem dX7_feederNow_27 : decode cX7_feederNow 27 = .ok (.iadd, 1) := by decide +kernel
theorem dX7_feederNow_28 : decode cX7_feederNow 28 = .ok (.iaload, 1) := by decide +kernel
theorem dX7_feederNow_29 : decode cX7_feederNow 29 = .ok (.goto 13, 3) := by decide +kernel
theorem dX7_feederNow_32 : decode cX7_feederNow 32 = .ok (.aload_n 0, 1) := by decide +kernel
theorem dX7_feederNow_33 : decode cX7_feederNow 33 = .ok (.getfield 7, 3) := by decide +kernel
theorem dX7_feederNow_36 : decode cX7_feederNow 36 = .ok (.sipush 192, 3) := by decide +kernel
theorem dX7_feederNow_39 : decode cX7_feederNow 39 = .ok (.iload_n 1, 1) := by decide +kernel
theorem dX7_feederNow_40 : decode cX7_feederNow 40 = .ok (.iadd, 1) := by decide +kernel
theorem dX7_feederNow_41 : decode cX7_feederNow 41 = .ok (.iaload, 1) := by decide +kernel
theorem dX7_feederNow_42 : decode cX7_feederNow 42 = .ok (.ireturn, 1) := by decide +kernel
theorem dX7_feeder_0 : decode cX7_feeder 0 = .ok (.iload_n 1, 1) := by decide +kernel
theorem dX7_feeder_1 : decode cX7_feeder 1 = .ok (.iconst 0, 1) := by decide +kernel
theorem dX7_feeder_2 : decode cX7_feeder 2 = .ok (.iconst 2, 1) := by decide +kernel
theorem dX7_feeder_3 : decode cX7_feeder 3 = .ok (.invokestatic 31, 3) := by decide +kernel
theorem dX7_feeder_6 : decode cX7_feeder 6 = .ok (.ifCond .eq 21, 3) := by decide +kernel
theorem dX7_feeder_9 : decode cX7_feeder 9 = .ok (.iload_n 2, 1) := by decide +kernel
theorem dX7_feeder_10 : decode cX7_feeder 10 = .ok (.iconst 0, 1) := by decide +kernel
theorem dX7_feeder_11 : decode cX7_feeder 11 = .ok (.iconst 4, 1) := by decide +kernel
theorem dX7_feeder_12 : decode cX7_feeder 12 = .ok (.invokestatic 31, 3) := by decide +kernel
theorem dX7_feeder_15 : decode cX7_feeder 15 = .ok (.ifCond .eq 12, 3) := by decide +kernel
theorem dX7_feeder_18 : decode cX7_feeder 18 = .ok (.aload_n 0, 1) := by decide +kernel
theorem dX7_feeder_19 : decode cX7_feeder 19 = .ok (.iload_n 1, 1) := by decide +kernel
theorem dX7_feeder_20 : decode cX7_feeder 20 = .ok (.iload_n 2, 1) := by decide +kernel
theorem dX7_feeder_21 : decode cX7_feeder 21 = .ok (.invokevirtual 185, 3) := by decide +kernel
theorem dX7_feeder_24 : decode cX7_feeder 24 = .ok (.goto 5, 3) := by decide +kernel
theorem dX7_feeder_27 : decode cX7_feeder 27 = .ok (.ldc 43, 2) := by decide +kernel
theorem dX7_feeder_29 : decode cX7_feeder 29 = .ok (.ireturn, 1) := by decide +kernel
theorem dX7_accountNow_0 : decode cX7_accountNow 0 = .ok (.iload_n 1, 1) := by decide +kernel
theorem dX7_accountNow_1 : decode cX7_accountNow 1 = .ok (.iconst 5, 1) := by decide +kernel
theorem dX7_accountNow_2 : decode cX7_accountNow 2 = .ok (.if_icmp .ne 19, 3) := by decide +kernel
theorem dX7_accountNow_5 : decode cX7_accountNow 5 = .ok (.aload_n 0, 1) := by decide +kernel
theorem dX7_accountNow_6 : decode cX7_accountNow 6 = .ok (.iconst 0, 1) := by decide +kernel
theorem dX7_accountNow_7 : decode cX7_accountNow 7 = .ok (.iconst 3, 1) := by decide +kernel
theorem dX7_accountNow_8 : decode cX7_accountNow 8 = .ok (.invokevirtual 99, 3) := by decide +kernel
theorem dX7_accountNow_11 : decode cX7_accountNow 11 = .ok (.aload_n 0, 1) := by decide +kernel
theorem dX7_accountNow_12 : decode cX7_accountNow 12 = .ok (.iconst 1, 1) := by decide +kernel
theorem dX7_accountNow_13 : decode cX7_accountNow 13 = .ok (.iconst 3, 1) := by decide +kernel
theorem dX7_accountNow_14 : decode cX7_accountNow 14 = .ok (.invokevirtual 99, 3) := by decide +kernel
theorem dX7_accountNow_17 : decode cX7_accountNow 17 = .ok (.iadd, 1) := by decide +kernel
theorem dX7_accountNow_18 : decode cX7_accountNow 18 = .ok (.goto 13, 3) := by decide +kernel
theorem dX7_accountNow_21 : decode cX7_accountNow 21 = .ok (.aload_n 0, 1) := by decide +kernel
theorem dX7_accountNow_22 : decode cX7_accountNow 22 = .ok (.getfield 7, 3) := by decide +kernel
theorem dX7_accountNow_25 : decode cX7_accountNow 25 = .ok (.sipush 181, 3) := by decide +kernel
theorem dX7_accountNow_28 : decode cX7_accountNow 28 = .ok (.iload_n 1, 1) := by decide +kernel
theorem dX7_accountNow_29 : decode cX7_accountNow 29 = .ok (.iadd, 1) := by decide +kernel
theorem dX7_accountNow_30 : decode cX7_accountNow 30 = .ok (.iaload, 1) := by decide +kernel
theorem dX7_accountNow_31 : decode cX7_accountNow 31 = .ok (.ireturn, 1) := by decide +kernel
theorem dX7_account_0 : decode cX7_account 0 = .ok (.iload_n 1, 1) := by decide +kernel
theorem dX7_account_1 : decode cX7_account 1 = .ok (.iconst 0, 1) := by decide +kernel
theorem dX7_account_2 : decode cX7_account 2 = .ok (.bipush 7, 2) := by decide +kernel
theorem dX7_account_4 : decode cX7_account 4 = .ok (.invokestatic 31, 3) := by decide +kernel
theorem dX7_account_7 : decode cX7_account 7 = .ok (.ifCond .eq 11, 3) := by decide +kernel
theorem dX7_account_10 : decode cX7_account 10 = .ok (.aload_n 0, 1) := by decide +kernel
theorem dX7_account_11 : decode cX7_account 11 = .ok (.iload_n 1, 1) := by decide +kernel
theorem dX7_account_12 : decode cX7_account 12 = .ok (.invokevirtual 188, 3) := by decide +kernel
theorem dX7_account_15 : decode cX7_account 15 = .ok (.goto 5, 3) := by decide +kernel
theorem dX7_account_18 : decode cX7_account 18 = .ok (.ldc 43, 2) := by decide +kernel
theorem dX7_account_20 : decode cX7_account 20 = .ok (.ireturn, 1) := by decide +kernel
theorem dX7_supply_0 : decode cX7_supply 0 = .ok (.iload_n 1, 1) := by decide +kernel
theorem dX7_supply_1 : decode cX7_supply 1 = .ok (.ifCond .ge 8, 3) := by decide +kernel
theorem dX7_supply_4 : decode cX7_supply 4 = .ok (.ldc 43, 2) := by decide +kernel
theorem dX7_supply_6 : decode cX7_supply 6 = .ok (.goto 8, 3) := by decide +kernel
theorem dX7_supply_9 : decode cX7_supply 9 = .ok (.aload_n 0, 1) := by decide +kernel
theorem dX7_supply_10 : decode cX7_supply 10 = .ok (.iload_n 1, 1) := by decide +kernel
theorem dX7_supply_11 : decode cX7_supply 11 = .ok (.invokevirtual 108, 3) := by decide +kernel
theorem dX7_supply_14 : decode cX7_supply 14 = .ok (.ireturn, 1) := by decide +kernel
theorem dX7_negative_0 : decode cX7_negative 0 = .ok (.iconst 0, 1) := by decide +kernel
theorem dX7_negative_1 : decode cX7_negative 1 = .ok (.istore_n 1, 1) := by decide +kernel
theorem dX7_negative_2 : decode cX7_negative 2 = .ok (.iconst 0, 1) := by decide +kernel
theorem dX7_negative_3 : decode cX7_negative 3 = .ok (.istore_n 2, 1) := by decide +kernel
theorem dX7_negative_4 : decode cX7_negative 4 = .ok (.iload_n 2, 1) := by decide +kernel
theorem dX7_negative_5 : decode cX7_negative 5 = .ok (.aload_n 0, 1) := by decide +kernel
theorem dX7_negative_6 : decode cX7_negative 6 = .ok (.getfield 7, 3) := by decide +kernel
theorem dX7_negative_9 : decode cX7_negative 9 = .ok (.sipush 172, 3) := by decide +kernel
theorem dX7_negative_12 : decode cX7_negative 12 = .ok (.iaload, 1) := by decide +kernel
theorem dX7_negative_13 : decode cX7_negative 13 = .ok (.if_icmp .ge 26, 3) := by decide +kernel
theorem dX7_negative_16 : decode cX7_negative 16 = .ok (.iload_n 1, 1) := by decide +kernel
theorem dX7_negative_17 : decode cX7_negative 17 = .ok (.aload_n 0, 1) := by decide +kernel
theorem dX7_negative_18 : decode cX7_negative 18 = .ok (.iload_n 2, 1) := by decide +kernel
theorem dX7_negative_19 : decode cX7_negative 19 = .ok (.iconst 4, 1) := by decide +kernel
theorem dX7_negative_20 : decode cX7_negative 20 = .ok (.invokevirtual 56, 3) := by decide +kernel
theorem dX7_negative_23 : decode cX7_negative 23 = .ok (.ifCond .ge 7, 3) := by decide +kernel
theorem dX7_negative_26 : decode cX7_negative 26 = .ok (.iconst 1, 1) := by decide +kernel
theorem dX7_negative_27 : decode cX7_negative 27 = .ok (.goto 4, 3) := by decide +kernel
theorem dX7_negative_30 : decode cX7_negative 30 = .ok (.iconst 0, 1) := by decide +kernel
theorem dX7_negative_31 : decode cX7_negative 31 = .ok (.iadd, 1) := by decide +kernel
theorem dX7_negative_32 : decode cX7_negative 32 = .ok (.istore_n 1, 1) := by decide +kernel
theorem dX7_negative_33 : decode cX7_negative 33 = .ok (.iinc 2 1, 3) := by decide +kernel
theorem dX7_negative_36 : decode cX7_negative 36 = .ok (.goto (-32), 3) := by decide +kernel
theorem dX7_negative_39 : decode cX7_negative 39 = .ok (.iload_n 1, 1) := by decide +kernel
theorem dX7_negative_40 : decode cX7_negative 40 = .ok (.ireturn, 1) := by decide +kernel
theorem dX7_counted_0 : decode cX7_counted 0 = .ok (.iload_n 1, 1) := by decide +kernel
theorem dX7_counted_1 : decode cX7_counted 1 = .ok (.tableswitch 98 0 6 #[43, 52, 61, 70, 79, 88, 93], 43) := by decide +kernel
theorem dX7_counted_44 : decode cX7_counted 44 = .ok (.aload_n 0, 1) := by decide +kernel
theorem dX7_counted_45 : decode cX7_counted 45 = .ok (.getfield 7, 3) := by decide +kernel
theorem dX7_counted_48 : decode cX7_counted 48 = .ok (.sipush 172, 3) := by decide +kernel
theorem dX7_counted_51 : decode cX7_counted 51 = .ok (.iaload, 1) := by decide +kernel
theorem dX7_counted_52 : decode cX7_counted 52 = .ok (.ireturn, 1) := by decide +kernel
theorem dX7_counted_53 : decode cX7_counted 53 = .ok (.aload_n 0, 1) := by decide +kernel
theorem dX7_counted_54 : decode cX7_counted 54 = .ok (.getfield 7, 3) := by decide +kernel
theorem dX7_counted_57 : decode cX7_counted 57 = .ok (.sipush 173, 3) := by decide +kernel
theorem dX7_counted_60 : decode cX7_counted 60 = .ok (.iaload, 1) := by decide +kernel
theorem dX7_counted_61 : decode cX7_counted 61 = .ok (.ireturn, 1) := by decide +kernel
theorem dX7_counted_62 : decode cX7_counted 62 = .ok (.aload_n 0, 1) := by decide +kernel
theorem dX7_counted_63 : decode cX7_counted 63 = .ok (.getfield 7, 3) := by decide +kernel
theorem dX7_counted_66 : decode cX7_counted 66 = .ok (.sipush 174, 3) := by decide +kernel
theorem dX7_counted_69 : decode cX7_counted 69 = .ok (.iaload, 1) := by decide +kernel
theorem dX7_counted_70 : decode cX7_counted 70 = .ok (.ireturn, 1) := by decide +kernel
theorem dX7_counted_71 : decode cX7_counted 71 = .ok (.aload_n 0, 1) := by decide +kernel
theorem dX7_counted_72 : decode cX7_counted 72 = .ok (.getfield 7, 3) := by decide +kernel
theorem dX7_counted_75 : decode cX7_counted 75 = .ok (.sipush 175, 3) := by decide +kernel
theorem dX7_counted_78 : decode cX7_counted 78 = .ok (.iaload, 1) := by decide +kernel
theorem dX7_counted_79 : decode cX7_counted 79 = .ok (.ireturn, 1) := by decide +kernel
theorem dX7_counted_80 : decode cX7_counted 80 = .ok (.aload_n 0, 1) := by decide +kernel
theorem dX7_counted_81 : decode cX7_counted 81 = .ok (.getfield 7, 3) := by decide +kernel
theorem dX7_counted_84 : decode cX7_counted 84 = .ok (.sipush 176, 3) := by decide +kernel
theorem dX7_counted_87 : decode cX7_counted 87 = .ok (.iaload, 1) := by decide +kernel
theorem dX7_counted_88 : decode cX7_counted 88 = .ok (.ireturn, 1) := by decide +kernel
theorem dX7_counted_89 : decode cX7_counted 89 = .ok (.aload_n 0, 1) := by decide +kernel
theorem dX7_counted_90 : decode cX7_counted 90 = .ok (.getfield 35, 3) := by decide +kernel
theorem dX7_counted_93 : decode cX7_counted 93 = .ok (.ireturn, 1) := by decide +kernel
theorem dX7_counted_94 : decode cX7_counted 94 = .ok (.aload_n 0, 1) := by decide +kernel
theorem dX7_counted_95 : decode cX7_counted 95 = .ok (.getfield 173, 3) := by decide +kernel
theorem dX7_counted_98 : decode cX7_counted 98 = .ok (.ireturn, 1) := by decide +kernel
theorem dX7_counted_99 : decode cX7_counted 99 = .ok (.aload_n 0, 1) := by decide +kernel
theorem dX7_counted_100 : decode cX7_counted 100 = .ok (.invokevirtual 191, 3) := by decide +kernel
theorem dX7_counted_103 : decode cX7_counted 103 = .ok (.ireturn, 1) := by decide +kernel
theorem dX7_count_0 : decode cX7_count 0 = .ok (.iload_n 1, 1) := by decide +kernel
theorem dX7_count_1 : decode cX7_count 1 = .ok (.iconst 0, 1) := by decide +kernel
theorem dX7_count_2 : decode cX7_count 2 = .ok (.bipush 7, 2) := by decide +kernel
theorem dX7_count_4 : decode cX7_count 4 = .ok (.invokestatic 31, 3) := by decide +kernel
theorem dX7_count_7 : decode cX7_count 7 = .ok (.ifCond .eq 11, 3) := by decide +kernel
theorem dX7_count_10 : decode cX7_count 10 = .ok (.aload_n 0, 1) := by decide +kernel
theorem dX7_count_11 : decode cX7_count 11 = .ok (.iload_n 1, 1) := by decide +kernel
theorem dX7_count_12 : decode cX7_count 12 = .ok (.invokevirtual 194, 3) := by decide +kernel
theorem dX7_count_15 : decode cX7_count 15 = .ok (.goto 5, 3) := by decide +kernel
theorem dX7_count_18 : decode cX7_count 18 = .ok (.ldc 43, 2) := by decide +kernel
theorem dX7_count_20 : decode cX7_count 20 = .ok (.ireturn, 1) := by decide +kernel
theorem dX7_setting_0 : decode cX7_setting 0 = .ok (.iload_n 1, 1) := by decide +kernel
theorem dX7_setting_1 : decode cX7_setting 1 = .ok (.iconst 0, 1) := by decide +kernel
theorem dX7_setting_2 : decode cX7_setting 2 = .ok (.iconst 3, 1) := by decide +kernel
theorem dX7_setting_3 : decode cX7_setting 3 = .ok (.invokestatic 31, 3) := by decide +kernel
theorem dX7_setting_6 : decode cX7_setting 6 = .ok (.ifCond .eq 11, 3) := by decide +kernel
theorem dX7_setting_9 : decode cX7_setting 9 = .ok (.aload_n 0, 1) := by decide +kernel
theorem dX7_setting_10 : decode cX7_setting 10 = .ok (.iload_n 1, 1) := by decide +kernel
theorem dX7_setting_11 : decode cX7_setting 11 = .ok (.invokevirtual 67, 3) := by decide +kernel
theorem dX7_setting_14 : decode cX7_setting 14 = .ok (.goto 5, 3) := by decide +kernel
theorem dX7_setting_17 : decode cX7_setting 17 = .ok (.ldc 43, 2) := by decide +kernel
theorem dX7_setting_19 : decode cX7_setting 19 = .ok (.ireturn, 1) := by decide +kernel
theorem dX7_dark_0 : decode cX7_dark 0 = .ok (.iconst 0, 1) := by decide +kernel
theorem dX7_dark_1 : decode cX7_dark 1 = .ok (.istore_n 1, 1) := by decide +kernel
theorem dX7_dark_2 : decode cX7_dark 2 = .ok (.iconst 0, 1) := by decide +kernel
theorem dX7_dark_3 : decode cX7_dark 3 = .ok (.istore_n 2, 1) := by decide +kernel
theorem dX7_dark_4 : decode cX7_dark 4 = .ok (.iload_n 2, 1) := by decide +kernel
theorem dX7_dark_5 : decode cX7_dark 5 = .ok (.aload_n 0, 1) := by decide +kernel
theorem dX7_dark_6 : decode cX7_dark 6 = .ok (.getfield 7, 3) := by decide +kernel
theorem dX7_dark_9 : decode cX7_dark 9 = .ok (.sipush 172, 3) := by decide +kernel
theorem dX7_dark_12 : decode cX7_dark 12 = .ok (.iaload, 1) := by decide +kernel
theorem dX7_dark_13 : decode cX7_dark 13 = .ok (.if_icmp .ge 32, 3) := by decide +kernel
theorem dX7_dark_16 : decode cX7_dark 16 = .ok (.iload_n 1, 1) := by decide +kernel
theorem dX7_dark_17 : decode cX7_dark 17 = .ok (.aload_n 0, 1) := by decide +kernel
theorem dX7_dark_18 : decode cX7_dark 18 = .ok (.iload_n 2, 1) := by decide +kernel
theorem dX7_dark_19 : decode cX7_dark 19 = .ok (.iconst 5, 1) := by decide +kernel
theorem dX7_dark_20 : decode cX7_dark 20 = .ok (.invokevirtual 56, 3) := by decide +kernel
theorem dX7_dark_23 : decode cX7_dark 23 = .ok (.aload_n 0, 1) := by decide +kernel
theorem dX7_dark_24 : decode cX7_dark 24 = .ok (.iload_n 2, 1) := by decide +kernel
theorem dX7_dark_25 : decode cX7_dark 25 = .ok (.iconst 1, 1) := by decide +kernel
theorem dX7_dark_26 : decode cX7_dark 26 = .ok (.invokevirtual 56, 3) := by decide +kernel
theorem dX7_dark_29 : decode cX7_dark 29 = .ok (.if_icmp .ge 7, 3) := by decide +kernel
theorem dX7_dark_32 : decode cX7_dark 32 = .ok (.iconst 1, 1) := by decide +kernel
theorem dX7_dark_33 : decode cX7_dark 33 = .ok (.goto 4, 3) := by decide +kernel
theorem dX7_dark_36 : decode cX7_dark 36 = .ok (.iconst 0, 1) := by decide +kernel
theorem dX7_dark_37 : decode cX7_dark 37 = .ok (.iadd, 1) := by decide +kernel
theorem dX7_dark_38 : decode cX7_dark 38 = .ok (.istore_n 1, 1) := by decide +kernel
theorem dX7_dark_39 : decode cX7_dark 39 = .ok (.iinc 2 1, 3) := by decide +kernel
theorem dX7_dark_42 : decode cX7_dark 42 = .ok (.goto (-38), 3) := by decide +kernel
theorem dX7_dark_45 : decode cX7_dark 45 = .ok (.iload_n 1, 1) := by decide +kernel
theorem dX7_dark_46 : decode cX7_dark 46 = .ok (.ireturn, 1) := by decide +kernel
theorem dX7_sheddings_0 : decode cX7_sheddings 0 = .ok (.aload_n 0, 1) := by decide +kernel
theorem dX7_sheddings_1 : decode cX7_sheddings 1 = .ok (.getfield 7, 3) := by decide +kernel
theorem dX7_sheddings_4 : decode cX7_sheddings 4 = .ok (.sipush 189, 3) := by decide +kernel
theorem dX7_sheddings_7 : decode cX7_sheddings 7 = .ok (.iaload, 1) := by decide +kernel
theorem dX7_sheddings_8 : decode cX7_sheddings 8 = .ok (.aload_n 0, 1) := by decide +kernel
theorem dX7_sheddings_9 : decode cX7_sheddings 9 = .ok (.getfield 7, 3) := by decide +kernel
theorem dX7_sheddings_12 : decode cX7_sheddings 12 = .ok (.sipush 190, 3) := by decide +kernel
theorem dX7_sheddings_15 : decode cX7_sheddings 15 = .ok (.iaload, 1) := by decide +kernel
theorem dX7_sheddings_16 : decode cX7_sheddings 16 = .ok (.iadd, 1) := by decide +kernel
theorem dX7_sheddings_17 : decode cX7_sheddings 17 = .ok (.aload_n 0, 1) := by decide +kernel
theorem dX7_sheddings_18 : decode cX7_sheddings 18 = .ok (.getfield 7, 3) := by decide +kernel
theorem dX7_sheddings_21 : decode cX7_sheddings 21 = .ok (.sipush 191, 3) := by decide +kernel
theorem dX7_sheddings_24 : decode cX7_sheddings 24 = .ok (.iaload, 1) := by decide +kernel
theorem dX7_sheddings_25 : decode cX7_sheddings 25 = .ok (.iadd, 1) := by decide +kernel
theorem dX7_sheddings_26 : decode cX7_sheddings 26 = .ok (.ireturn, 1) := by decide +kernel
theorem dX7_ahead_0 : decode cX7_ahead 0 = .ok (.aload_n 0, 1) := by decide +kernel
theorem dX7_ahead_1 : decode cX7_ahead 1 = .ok (.aload_n 0, 1) := by decide +kernel
theorem dX7_ahead_2 : decode cX7_ahead 2 = .ok (.getfield 7, 3) := by decide +kernel
theorem dX7_ahead_5 : decode cX7_ahead 5 = .ok (.iconst 0, 1) := by decide +kernel
theorem dX7_ahead_6 : decode cX7_ahead 6 = .ok (.aload_n 0, 1) := by decide +kernel
theorem dX7_ahead_7 : decode cX7_ahead 7 = .ok (.getfield 13, 3) := by decide +kernel
theorem dX7_ahead_10 : decode cX7_ahead 10 = .ok (.iconst 0, 1) := by decide +kernel
theorem dX7_ahead_11 : decode cX7_ahead 11 = .ok (.invokevirtual 39, 3) := by decide +kernel
theorem dX7_ahead_14 : decode cX7_ahead 14 = .ok (.aload_n 0, 1) := by decide +kernel
theorem dX7_ahead_15 : decode cX7_ahead 15 = .ok (.getfield 7, 3) := by decide +kernel
theorem dX7_ahead_18 : decode cX7_ahead 18 = .ok (.sipush 182, 3) := by decide +kernel
theorem dX7_ahead_21 : decode cX7_ahead 21 = .ok (.iaload, 1) := by decide +kernel
theorem dX7_ahead_22 : decode cX7_ahead 22 = .ok (.istore_n 3, 1) := by decide +kernel
theorem dX7_ahead_23 : decode cX7_ahead 23 = .ok (.aload_n 0, 1) := by decide +kernel
theorem dX7_ahead_24 : decode cX7_ahead 24 = .ok (.getfield 7, 3) := by decide +kernel
theorem dX7_ahead_27 : decode cX7_ahead 27 = .ok (.sipush 184, 3) := by decide +kernel
theorem dX7_ahead_30 : decode cX7_ahead 30 = .ok (.iaload, 1) := by decide +kernel
theorem dX7_ahead_31 : decode cX7_ahead 31 = .ok (.istore 4, 2) := by decide +kernel
theorem dX7_ahead_33 : decode cX7_ahead 33 = .ok (.aload_n 0, 1) := by decide +kernel
theorem dX7_ahead_34 : decode cX7_ahead 34 = .ok (.invokevirtual 197, 3) := by decide +kernel
theorem dX7_ahead_37 : decode cX7_ahead 37 = .ok (.istore 5, 2) := by decide +kernel
theorem dX7_ahead_39 : decode cX7_ahead 39 = .ok (.iconst 0, 1) := by decide +kernel
theorem dX7_ahead_40 : decode cX7_ahead 40 = .ok (.istore 6, 2) := by decide +kernel
theorem dX7_ahead_42 : decode cX7_ahead 42 = .ok (.iload 6, 2) := by decide +kernel
theorem dX7_ahead_44 : decode cX7_ahead 44 = .ok (.iload_n 1, 1) := by decide +kernel
theorem dX7_ahead_45 : decode cX7_ahead 45 = .ok (.if_icmp .ge 13, 3) := by decide +kernel
theorem dX7_ahead_48 : decode cX7_ahead 48 = .ok (.aload_n 0, 1) := by decide +kernel
theorem dX7_ahead_49 : decode cX7_ahead 49 = .ok (.invokevirtual 130, 3) := by decide +kernel
theorem dX7_ahead_52 : decode cX7_ahead 52 = .ok (.iinc 6 1, 3) := by decide +kernel
theorem dX7_ahead_55 : decode cX7_ahead 55 = .ok (.goto (-13), 3) := by decide +kernel
theorem dX7_ahead_58 : decode cX7_ahead 58 = .ok (.iload_n 2, 1) := by decide +kernel
theorem dX7_ahead_59 : decode cX7_ahead 59 = .ok (.ifCond .ne 16, 3) := by decide +kernel
theorem dX7_ahead_62 : decode cX7_ahead 62 = .ok (.aload_n 0, 1) := by decide +kernel
theorem dX7_ahead_63 : decode cX7_ahead 63 = .ok (.getfield 7, 3) := by decide +kernel
theorem dX7_ahead_66 : decode cX7_ahead 66 = .ok (.sipush 182, 3) := by decide +kernel
theorem dX7_ahead_69 : decode cX7_ahead 69 = .ok (.iaload, 1) := by decide +kernel
theorem dX7_ahead_70 : decode cX7_ahead 70 = .ok (.iload_n 3, 1) := by decide +kernel
theorem dX7_ahead_71 : decode cX7_ahead 71 = .ok (.isub, 1) := by decide +kernel
theorem dX7_ahead_72 : decode cX7_ahead 72 = .ok (.goto 54, 3) := by decide +kernel
theorem dX7_ahead_75 : decode cX7_ahead 75 = .ok (.iload_n 2, 1) := by decide +kernel
theorem dX7_ahead_76 : decode cX7_ahead 76 = .ok (.iconst 1, 1) := by decide +kernel
theorem dX7_ahead_77 : decode cX7_ahead 77 = .ok (.if_icmp .ne 13, 3) := by decide +kernel
theorem dX7_ahead_80 : decode cX7_ahead 80 = .ok (.aload_n 0, 1) := by decide +kernel
theorem dX7_ahead_81 : decode cX7_ahead 81 = .ok (.invokevirtual 197, 3) := by decide +kernel
theorem dX7_ahead_84 : decode cX7_ahead 84 = .ok (.iload 5, 2) := by decide +kernel
theorem dX7_ahead_86 : decode cX7_ahead 86 = .ok (.isub, 1) := by decide +kernel
theorem dX7_ahead_87 : decode cX7_ahead 87 = .ok (.goto 39, 3) := by decide +kernel
theorem dX7_ahead_90 : decode cX7_ahead 90 = .ok (.iload_n 2, 1) := by decide +kernel
theorem dX7_ahead_91 : decode cX7_ahead 91 = .ok (.iconst 2, 1) := by decide +kernel
theorem dX7_ahead_92 : decode cX7_ahead 92 = .ok (.if_icmp .ne 17, 3) := by decide +kernel
theorem dX7_ahead_95 : decode cX7_ahead 95 = .ok (.aload_n 0, 1) := by decide +kernel
theorem dX7_ahead_96 : decode cX7_ahead 96 = .ok (.getfield 7, 3) := by decide +kernel
theorem dX7_ahead_99 : decode cX7_ahead 99 = .ok (.sipush 184, 3) := by decide +kernel
theorem dX7_ahead_102 : decode cX7_ahead 102 = .ok (.iaload, 1) := by decide +kernel
theorem dX7_ahead_103 : decode cX7_ahead 103 = .ok (.iload 4, 2) := by decide +kernel
theorem dX7_ahead_105 : decode cX7_ahead 105 = .ok (.isub, 1) := by decide +kernel
theorem dX7_ahead_106 : decode cX7_ahead 106 = .ok (.goto 20, 3) := by decide +kernel
theorem dX7_ahead_109 : decode cX7_ahead 109 = .ok (.iload_n 2, 1) := by decide +kernel
theorem dX7_ahead_110 : decode cX7_ahead 110 = .ok (.iconst 3, 1) := by decide +kernel
theorem dX7_ahead_111 : decode cX7_ahead 111 = .ok (.if_icmp .ne 11, 3) := by decide +kernel
theorem dX7_ahead_114 : decode cX7_ahead 114 = .ok (.aload_n 0, 1) := by decide +kernel
theorem dX7_ahead_115 : decode cX7_ahead 115 = .ok (.iconst 5, 1) := by decide +kernel
theorem dX7_ahead_116 : decode cX7_ahead 116 = .ok (.invokevirtual 188, 3) := by decide +kernel
theorem dX7_ahead_119 : decode cX7_ahead 119 = .ok (.goto 7, 3) := by decide +kernel
theorem dX7_ahead_122 : decode cX7_ahead 122 = .ok (.aload_n 0, 1) := by decide +kernel
theorem dX7_ahead_123 : decode cX7_ahead 123 = .ok (.invokevirtual 200, 3) := by decide +kernel
theorem dX7_ahead_126 : decode cX7_ahead 126 = .ok (.istore 6, 2) := by decide +kernel
theorem dX7_ahead_128 : decode cX7_ahead 128 = .ok (.aload_n 0, 1) := by decide +kernel
theorem dX7_ahead_129 : decode cX7_ahead 129 = .ok (.aload_n 0, 1) := by decide +kernel
theorem dX7_ahead_130 : decode cX7_ahead 130 = .ok (.getfield 13, 3) := by decide +kernel
theorem dX7_ahead_133 : decode cX7_ahead 133 = .ok (.iconst 0, 1) := by decide +kernel
theorem dX7_ahead_134 : decode cX7_ahead 134 = .ok (.aload_n 0, 1) := by decide +kernel
theorem dX7_ahead_135 : decode cX7_ahead 135 = .ok (.getfield 7, 3) := by decide +kernel
theorem dX7_ahead_138 : decode cX7_ahead 138 = .ok (.iconst 0, 1) := by decide +kernel
theorem dX7_ahead_139 : decode cX7_ahead 139 = .ok (.invokevirtual 39, 3) := by decide +kernel
theorem dX7_ahead_142 : decode cX7_ahead 142 = .ok (.iload 6, 2) := by decide +kernel
theorem dX7_ahead_144 : decode cX7_ahead 144 = .ok (.ireturn, 1) := by decide +kernel
theorem dX7_ifRun_0 : decode cX7_ifRun 0 = .ok (.iload_n 1, 1) := by decide +kernel
theorem dX7_ifRun_1 : decode cX7_ifRun 1 = .ok (.iconst 1, 1) := by decide +kernel
theorem dX7_ifRun_2 : decode cX7_ifRun 2 = .ok (.bipush 100, 2) := by decide +kernel
theorem dX7_ifRun_4 : decode cX7_ifRun 4 = .ok (.invokestatic 31, 3) := by decide +kernel
theorem dX7_ifRun_7 : decode cX7_ifRun 7 = .ok (.ifCond .eq 21, 3) := by decide +kernel
theorem dX7_ifRun_10 : decode cX7_ifRun 10 = .ok (.iload_n 2, 1) := by decide +kernel
theorem dX7_ifRun_11 : decode cX7_ifRun 11 = .ok (.iconst 0, 1) := by decide +kernel
theorem dX7_ifRun_12 : decode cX7_ifRun 12 = .ok (.iconst 4, 1) := by decide +kernel
theorem dX7_ifRun_13 : decode cX7_ifRun 13 = .ok (.invokestatic 31, 3) := by decide +kernel
theorem dX7_ifRun_16 : decode cX7_ifRun 16 = .ok (.ifCond .eq 12, 3) := by decide +kernel
theorem dX7_ifRun_19 : decode cX7_ifRun 19 = .ok (.aload_n 0, 1) := by decide +kernel
theorem dX7_ifRun_20 : decode cX7_ifRun 20 = .ok (.iload_n 1, 1) := by decide +kernel
theorem dX7_ifRun_21 : decode cX7_ifRun 21 = .ok (.iload_n 2, 1) := by decide +kernel
theorem dX7_ifRun_22 : decode cX7_ifRun 22 = .ok (.invokevirtual 203, 3) := by decide +kernel
theorem dX7_ifRun_25 : decode cX7_ifRun 25 = .ok (.goto 5, 3) := by decide +kernel
theorem dX7_ifRun_28 : decode cX7_ifRun 28 = .ok (.ldc 43, 2) := by decide +kernel
theorem dX7_ifRun_30 : decode cX7_ifRun 30 = .ok (.ireturn, 1) := by decide +kernel
theorem dX7_firstDark_0 : decode cX7_firstDark 0 = .ok (.iconst 0, 1) := by decide +kernel
theorem dX7_firstDark_1 : decode cX7_firstDark 1 = .ok (.istore_n 3, 1) := by decide +kernel
theorem dX7_firstDark_2 : decode cX7_firstDark 2 = .ok (.iconst 0, 1) := by decide +kernel
theorem dX7_firstDark_3 : decode cX7_firstDark 3 = .ok (.istore 4, 2) := by decide +kernel
theorem dX7_firstDark_5 : decode cX7_firstDark 5 = .ok (.iload_n 3, 1) := by decide +kernel
theorem dX7_firstDark_6 : decode cX7_firstDark 6 = .ok (.iload_n 2, 1) := by decide +kernel
theorem dX7_firstDark_7 : decode cX7_firstDark 7 = .ok (.if_icmp .ge 50, 3) := by decide +kernel
theorem dX7_firstDark_10 : decode cX7_firstDark 10 = .ok (.iload 4, 2) := by decide +kernel
theorem dX7_firstDark_12 : decode cX7_firstDark 12 = .ok (.ifCond .ne 45, 3) := by decide +kernel
theorem dX7_firstDark_15 : decode cX7_firstDark 15 = .ok (.aload_n 0, 1) := by decide +kernel
theorem dX7_firstDark_16 : decode cX7_firstDark 16 = .ok (.invokevirtual 130, 3) := by decide +kernel
theorem dX7_firstDark_19 : decode cX7_firstDark 19 = .ok (.aload_n 0, 1) := by decide +kernel
theorem dX7_firstDark_20 : decode cX7_firstDark 20 = .ok (.iload_n 1, 1) := by decide +kernel
theorem dX7_firstDark_21 : decode cX7_firstDark 21 = .ok (.iconst 5, 1) := by decide +kernel
theorem dX7_firstDark_22 : decode cX7_firstDark 22 = .ok (.invokevirtual 56, 3) := by decide +kernel
theorem dX7_firstDark_25 : decode cX7_firstDark 25 = .ok (.aload_n 0, 1) := by decide +kernel
theorem dX7_firstDark_26 : decode cX7_firstDark 26 = .ok (.iload_n 1, 1) := by decide +kernel
theorem dX7_firstDark_27 : decode cX7_firstDark 27 = .ok (.iconst 1, 1) := by decide +kernel
theorem dX7_firstDark_28 : decode cX7_firstDark 28 = .ok (.invokevirtual 56, 3) := by decide +kernel
theorem dX7_firstDark_31 : decode cX7_firstDark 31 = .ok (.if_icmp .ge 7, 3) := by decide +kernel
theorem dX7_firstDark_34 : decode cX7_firstDark 34 = .ok (.iconst 1, 1) := by decide +kernel
theorem dX7_firstDark_35 : decode cX7_firstDark 35 = .ok (.goto 4, 3) := by decide +kernel
theorem dX7_firstDark_38 : decode cX7_firstDark 38 = .ok (.iconst 0, 1) := by decide +kernel
theorem dX7_firstDark_39 : decode cX7_firstDark 39 = .ok (.istore 4, 2) := by decide +kernel
theorem dX7_firstDark_41 : decode cX7_firstDark 41 = .ok (.iload_n 3, 1) := by decide +kernel
theorem dX7_firstDark_42 : decode cX7_firstDark 42 = .ok (.iload 4, 2) := by decide +kernel
theorem dX7_firstDark_44 : decode cX7_firstDark 44 = .ok (.ifCond .eq 7, 3) := by decide +kernel
theorem dX7_firstDark_47 : decode cX7_firstDark 47 = .ok (.iconst 0, 1) := by decide +kernel
theorem dX7_firstDark_48 : decode cX7_firstDark 48 = .ok (.goto 4, 3) := by decide +kernel
theorem dX7_firstDark_51 : decode cX7_firstDark 51 = .ok (.iconst 1, 1) := by decide +kernel
theorem dX7_firstDark_52 : decode cX7_firstDark 52 = .ok (.iadd, 1) := by decide +kernel
theorem dX7_firstDark_53 : decode cX7_firstDark 53 = .ok (.istore_n 3, 1) := by decide +kernel
theorem dX7_firstDark_54 : decode cX7_firstDark 54 = .ok (.goto (-49), 3) := by decide +kernel
theorem dX7_firstDark_57 : decode cX7_firstDark 57 = .ok (.aload_n 0, 1) := by decide +kernel
theorem dX7_firstDark_58 : decode cX7_firstDark 58 = .ok (.aload_n 0, 1) := by decide +kernel
theorem dX7_firstDark_59 : decode cX7_firstDark 59 = .ok (.getfield 13, 3) := by decide +kernel
theorem dX7_firstDark_62 : decode cX7_firstDark 62 = .ok (.iconst 0, 1) := by decide +kernel
theorem dX7_firstDark_63 : decode cX7_firstDark 63 = .ok (.aload_n 0, 1) := by decide +kernel
theorem dX7_firstDark_64 : decode cX7_firstDark 64 = .ok (.getfield 7, 3) := by decide +kernel
theorem dX7_firstDark_67 : decode cX7_firstDark 67 = .ok (.iconst 0, 1) := by decide +kernel
theorem dX7_firstDark_68 : decode cX7_firstDark 68 = .ok (.invokevirtual 39, 3) := by decide +kernel
theorem dX7_firstDark_71 : decode cX7_firstDark 71 = .ok (.iload 4, 2) := by decide +kernel
theorem dX7_firstDark_73 : decode cX7_firstDark 73 = .ok (.ifCond .eq 7, 3) := by decide +kernel
theorem dX7_firstDark_76 : decode cX7_firstDark 76 = .ok (.iload_n 3, 1) := by decide +kernel
theorem dX7_firstDark_77 : decode cX7_firstDark 77 = .ok (.goto 5, 3) := by decide +kernel
theorem dX7_firstDark_80 : decode cX7_firstDark 80 = .ok (.ldc 85, 2) := by decide +kernel
theorem dX7_firstDark_82 : decode cX7_firstDark 82 = .ok (.ireturn, 1) := by decide +kernel
theorem dX7_darkIn_0 : decode cX7_darkIn 0 = .ok (.aload_n 0, 1) := by decide +kernel
theorem dX7_darkIn_1 : decode cX7_darkIn 1 = .ok (.iload_n 1, 1) := by decide +kernel
theorem dX7_darkIn_2 : decode cX7_darkIn 2 = .ok (.invokevirtual 48, 3) := by decide +kernel
theorem dX7_darkIn_5 : decode cX7_darkIn 5 = .ok (.ifCond .ne 6, 3) := by decide +kernel
theorem dX7_darkIn_8 : decode cX7_darkIn 8 = .ok (.ldc 43, 2) := by decide +kernel
theorem dX7_darkIn_10 : decode cX7_darkIn 10 = .ok (.ireturn, 1) := by decide +kernel
theorem dX7_darkIn_11 : decode cX7_darkIn 11 = .ok (.aload_n 0, 1) := by decide +kernel
theorem dX7_darkIn_12 : decode cX7_darkIn 12 = .ok (.aload_n 0, 1) := by decide +kernel
theorem dX7_darkIn_13 : decode cX7_darkIn 13 = .ok (.getfield 7, 3) := by decide +kernel
theorem dX7_darkIn_16 : decode cX7_darkIn 16 = .ok (.iconst 0, 1) := by decide +kernel
theorem dX7_darkIn_17 : decode cX7_darkIn 17 = .ok (.aload_n 0, 1) := by decide +kernel
theorem dX7_darkIn_18 : decode cX7_darkIn 18 = .ok (.getfield 13, 3) := by decide +kernel
theorem dX7_darkIn_21 : decode cX7_darkIn 21 = .ok (.iconst 0, 1) := by decide +kernel
theorem dX7_darkIn_22 : decode cX7_darkIn 22 = .ok (.invokevirtual 39, 3) := by decide +kernel
theorem dX7_darkIn_25 : decode cX7_darkIn 25 = .ok (.aload_n 0, 1) := by decide +kernel
theorem dX7_darkIn_26 : decode cX7_darkIn 26 = .ok (.iload_n 1, 1) := by decide +kernel
theorem dX7_darkIn_27 : decode cX7_darkIn 27 = .ok (.sipush 200, 3) := by decide +kernel
theorem dX7_darkIn_30 : decode cX7_darkIn 30 = .ok (.invokevirtual 206, 3) := by decide +kernel
theorem dX7_darkIn_33 : decode cX7_darkIn 33 = .ok (.ireturn, 1) := by decide +kernel
theorem dX7_tokenFor_0 : decode cX7_tokenFor 0 = .ok (.aload_n 0, 1) := by decide +kernel
theorem dX7_tokenFor_1 : decode cX7_tokenFor 1 = .ok (.iload_n 1, 1) := by decide +kernel
theorem dX7_tokenFor_2 : decode cX7_tokenFor 2 = .ok (.invokevirtual 48, 3) := by decide +kernel
theorem dX7_tokenFor_5 : decode cX7_tokenFor 5 = .ok (.ifCond .eq 13, 3) := by decide +kernel
theorem dX7_tokenFor_8 : decode cX7_tokenFor 8 = .ok (.iload_n 2, 1) := by decide +kernel
theorem dX7_tokenFor_9 : decode cX7_tokenFor 9 = .ok (.iconst 1, 1) := by decide +kernel
theorem dX7_tokenFor_10 : decode cX7_tokenFor 10 = .ok (.bipush 48, 2) := by decide +kernel
theorem dX7_tokenFor_12 : decode cX7_tokenFor 12 = .ok (.invokestatic 31, 3) := by decide +kernel
theorem dX7_tokenFor_15 : decode cX7_tokenFor 15 = .ok (.ifCond .ne 6, 3) := by decide +kernel
theorem dX7_tokenFor_18 : decode cX7_tokenFor 18 = .ok (.ldc 43, 2) := by decide +kernel
theorem dX7_tokenFor_20 : decode cX7_tokenFor 20 = .ok (.ireturn, 1) := by decide +kernel
theorem dX7_tokenFor_21 : decode cX7_tokenFor 21 = .ok (.aload_n 0, 1) := by decide +kernel
theorem dX7_tokenFor_22 : decode cX7_tokenFor 22 = .ok (.aload_n 0, 1) := by decide +kernel
theorem dX7_tokenFor_23 : decode cX7_tokenFor 23 = .ok (.getfield 7, 3) := by decide +kernel
theorem dX7_tokenFor_26 : decode cX7_tokenFor 26 = .ok (.iconst 0, 1) := by decide +kernel
theorem dX7_tokenFor_27 : decode cX7_tokenFor 27 = .ok (.aload_n 0, 1) := by decide +kernel
theorem dX7_tokenFor_28 : decode cX7_tokenFor 28 = .ok (.getfield 13, 3) := by decide +kernel
theorem dX7_tokenFor_31 : decode cX7_tokenFor 31 = .ok (.iconst 0, 1) := by decide +kernel
theorem dX7_tokenFor_32 : decode cX7_tokenFor 32 = .ok (.invokevirtual 39, 3) := by decide +kernel
theorem dX7_tokenFor_35 : decode cX7_tokenFor 35 = .ok (.aload_n 0, 1) := by decide +kernel
theorem dX7_tokenFor_36 : decode cX7_tokenFor 36 = .ok (.iload_n 1, 1) := by decide +kernel
theorem dX7_tokenFor_37 : decode cX7_tokenFor 37 = .ok (.iload_n 2, 1) := by decide +kernel
theorem dX7_tokenFor_38 : decode cX7_tokenFor 38 = .ok (.invokevirtual 206, 3) := by decide +kernel
theorem dX7_tokenFor_41 : decode cX7_tokenFor 41 = .ok (.ldc 85, 2) := by decide +kernel
theorem dX7_tokenFor_43 : decode cX7_tokenFor 43 = .ok (.if_icmp .ne 7, 3) := by decide +kernel
theorem dX7_tokenFor_46 : decode cX7_tokenFor 46 = .ok (.iconst 0, 1) := by decide +kernel
theorem dX7_tokenFor_47 : decode cX7_tokenFor 47 = .ok (.goto 5, 3) := by decide +kernel
theorem dX7_tokenFor_50 : decode cX7_tokenFor 50 = .ok (.ldc 85, 2) := by decide +kernel
theorem dX7_tokenFor_52 : decode cX7_tokenFor 52 = .ok (.istore_n 3, 1) := by decide +kernel
theorem dX7_tokenFor_53 : decode cX7_tokenFor 53 = .ok (.iconst 1, 1) := by decide +kernel
theorem dX7_tokenFor_54 : decode cX7_tokenFor 54 = .ok (.istore 4, 2) := by decide +kernel
theorem dX7_tokenFor_56 : decode cX7_tokenFor 56 = .ok (.iload 4, 2) := by decide +kernel
theorem dX7_tokenFor_58 : decode cX7_tokenFor 58 = .ok (.sipush 500, 3) := by decide +kernel
theorem dX7_tokenFor_61 : decode cX7_tokenFor 61 = .ok (.if_icmp .gt 41, 3) := by decide +kernel
theorem dX7_tokenFor_64 : decode cX7_tokenFor 64 = .ok (.iload_n 3, 1) := by decide +kernel
theorem dX7_tokenFor_65 : decode cX7_tokenFor 65 = .ok (.ldc 85, 2) := by decide +kernel
theorem dX7_tokenFor_67 : decode cX7_tokenFor 67 = .ok (.if_icmp .ne 35, 3) := by decide +kernel
theorem dX7_tokenFor_70 : decode cX7_tokenFor 70 = .ok (.aload_n 0, 1) := by decide +kernel
theorem dX7_tokenFor_71 : decode cX7_tokenFor 71 = .ok (.iload_n 1, 1) := by decide +kernel
theorem dX7_tokenFor_72 : decode cX7_tokenFor 72 = .ok (.iload 4, 2) := by decide +kernel
theorem dX7_tokenFor_74 : decode cX7_tokenFor 74 = .ok (.invokevirtual 78, 3) := by decide +kernel
theorem dX7_tokenFor_77 : decode cX7_tokenFor 77 = .ok (.aload_n 0, 1) := by decide +kernel
theorem dX7_tokenFor_78 : decode cX7_tokenFor 78 = .ok (.iload_n 1, 1) := by decide +kernel
theorem dX7_tokenFor_79 : decode cX7_tokenFor 79 = .ok (.iload_n 2, 1) := by decide +kernel
theorem dX7_tokenFor_80 : decode cX7_tokenFor 80 = .ok (.invokevirtual 206, 3) := by decide +kernel
theorem dX7_tokenFor_83 : decode cX7_tokenFor 83 = .ok (.ldc 85, 2) := by decide +kernel
theorem dX7_tokenFor_85 : decode cX7_tokenFor 85 = .ok (.if_icmp .ne 8, 3) := by decide +kernel
theorem dX7_tokenFor_88 : decode cX7_tokenFor 88 = .ok (.iload 4, 2) := by decide +kernel
theorem dX7_tokenFor_90 : decode cX7_tokenFor 90 = .ok (.goto 5, 3) := by decide +kernel
theorem dX7_tokenFor_93 : decode cX7_tokenFor 93 = .ok (.ldc 85, 2) := by decide +kernel
theorem dX7_tokenFor_95 : decode cX7_tokenFor 95 = .ok (.istore_n 3, 1) := by decide +kernel
theorem dX7_tokenFor_96 : decode cX7_tokenFor 96 = .ok (.iinc 4 1, 3) := by decide +kernel
theorem dX7_tokenFor_99 : decode cX7_tokenFor 99 = .ok (.goto (-43), 3) := by decide +kernel
theorem dX7_tokenFor_102 : decode cX7_tokenFor 102 = .ok (.iload_n 3, 1) := by decide +kernel
theorem dX7_tokenFor_103 : decode cX7_tokenFor 103 = .ok (.ireturn, 1) := by decide +kernel
theorem dX7_met_0 : decode cX7_met 0 = .ok (.iconst 0, 1) := by decide +kernel
theorem dX7_met_1 : decode cX7_met 1 = .ok (.istore_n 1, 1) := by decide +kernel
theorem dX7_met_2 : decode cX7_met 2 = .ok (.iconst 0, 1) := by decide +kernel
theorem dX7_met_3 : decode cX7_met 3 = .ok (.istore_n 2, 1) := by decide +kernel
theorem dX7_met_4 : decode cX7_met 4 = .ok (.iconst 0, 1) := by decide +kernel
theorem dX7_met_5 : decode cX7_met 5 = .ok (.istore_n 3, 1) := by decide +kernel
theorem dX7_met_6 : decode cX7_met 6 = .ok (.iload_n 3, 1) := by decide +kernel
theorem dX7_met_7 : decode cX7_met 7 = .ok (.aload_n 0, 1) := by decide +kernel
theorem dX7_met_8 : decode cX7_met 8 = .ok (.getfield 7, 3) := by decide +kernel
theorem dX7_met_11 : decode cX7_met 11 = .ok (.sipush 172, 3) := by decide +kernel
theorem dX7_met_14 : decode cX7_met 14 = .ok (.iaload, 1) := by decide +kernel
theorem dX7_met_15 : decode cX7_met 15 = .ok (.if_icmp .ge 27, 3) := by decide +kernel
theorem dX7_met_18 : decode cX7_met 18 = .ok (.iload_n 1, 1) := by decide +kernel
theorem dX7_met_19 : decode cX7_met 19 = .ok (.aload_n 0, 1) := by decide +kernel
theorem dX7_met_20 : decode cX7_met 20 = .ok (.iload_n 3, 1) := by decide +kernel
theorem dX7_met_21 : decode cX7_met 21 = .ok (.iconst 5, 1) := by decide +kernel
theorem dX7_met_22 : decode cX7_met 22 = .ok (.invokevirtual 56, 3) := by decide +kernel
theorem dX7_met_25 : decode cX7_met 25 = .ok (.iadd, 1) := by decide +kernel
theorem dX7_met_26 : decode cX7_met 26 = .ok (.istore_n 1, 1) := by decide +kernel
theorem dX7_met_27 : decode cX7_met 27 = .ok (.iload_n 2, 1) := by decide +kernel
theorem dX7_met_28 : decode cX7_met 28 = .ok (.aload_n 0, 1) := by decide +kernel
theorem dX7_met_29 : decode cX7_met 29 = .ok (.iload_n 3, 1) := by decide +kernel
theorem dX7_met_30 : decode cX7_met 30 = .ok (.iconst 1, 1) := by decide +kernel
theorem dX7_met_31 : decode cX7_met 31 = .ok (.invokevirtual 56, 3) := by decide +kernel
theorem dX7_met_34 : decode cX7_met 34 = .ok (.iadd, 1) := by decide +kernel
theorem dX7_met_35 : decode cX7_met 35 = .ok (.istore_n 2, 1) := by decide +kernel
theorem dX7_met_36 : decode cX7_met 36 = .ok (.iinc 3 1, 3) := by decide +kernel
theorem dX7_met_39 : decode cX7_met 39 = .ok (.goto (-33), 3) := by decide +kernel
theorem dX7_met_42 : decode cX7_met 42 = .ok (.iload_n 2, 1) := by decide +kernel
theorem dX7_met_43 : decode cX7_met 43 = .ok (.ifCond .ne 7, 3) := by decide +kernel
theorem dX7_met_46 : decode cX7_met 46 = .ok (.dconst 1, 1) := by decide +kernel
theorem dX7_met_47 : decode cX7_met 47 = .ok (.goto 8, 3) := by decide +kernel
theorem dX7_met_50 : decode cX7_met 50 = .ok (.iload_n 1, 1) := by decide +kernel
theorem dX7_met_51 : decode cX7_met 51 = .ok (.i2d, 1) := by decide +kernel
theorem dX7_met_52 : decode cX7_met 52 = .ok (.iload_n 2, 1) := by decide +kernel
theorem dX7_met_53 : decode cX7_met 53 = .ok (.i2d, 1) := by decide +kernel
theorem dX7_met_54 : decode cX7_met 54 = .ok (.ddiv, 1) := by decide +kernel
theorem dX7_met_55 : decode cX7_met 55 = .ok (.dreturn, 1) := by decide +kernel
theorem dX7_mix_0 : decode cX7_mix 0 = .ok (.aload_n 0, 1) := by decide +kernel
theorem dX7_mix_1 : decode cX7_mix 1 = .ok (.ldc2_w 209, 3) := by decide +kernel
theorem dX7_mix_4 : decode cX7_mix 4 = .ok (.aload_n 0, 1) := by decide +kernel
theorem dX7_mix_5 : decode cX7_mix 5 = .ok (.getfield 211, 3) := by decide +kernel
theorem dX7_mix_8 : decode cX7_mix 8 = .ok (.lmul, 1) := by decide +kernel
theorem dX7_mix_9 : decode cX7_mix 9 = .ok (.lload_n 1, 1) := by decide +kernel
theorem dX7_mix_10 : decode cX7_mix 10 = .ok (.ladd, 1) := by decide +kernel
theorem dX7_mix_11 : decode cX7_mix 11 = .ok (.putfield 211, 3) := by decide +kernel
theorem dX7_mix_14 : decode cX7_mix 14 = .ok (.return_, 1) := by decide +kernel
theorem dX7_mixThings_0 : decode cX7_mixThings 0 = .ok (.iconst 0, 1) := by decide +kernel
theorem dX7_mixThings_1 : decode cX7_mixThings 1 = .ok (.istore_n 1, 1) := by decide +kernel
theorem dX7_mixThings_2 : decode cX7_mixThings 2 = .ok (.iload_n 1, 1) := by decide +kernel
theorem dX7_mixThings_3 : decode cX7_mixThings 3 = .ok (.bipush 11, 2) := by decide +kernel
theorem dX7_mixThings_5 : decode cX7_mixThings 5 = .ok (.aload_n 0, 1) := by decide +kernel
theorem dX7_mixThings_6 : decode cX7_mixThings 6 = .ok (.getfield 7, 3) := by decide +kernel
theorem dX7_mixThings_9 : decode cX7_mixThings 9 = .ok (.sipush 172, 3) := by decide +kernel
theorem dX7_mixThings_12 : decode cX7_mixThings 12 = .ok (.iaload, 1) := by decide +kernel
theorem dX7_mixThings_13 : decode cX7_mixThings 13 = .ok (.imul, 1) := by decide +kernel
theorem dX7_mixThings_14 : decode cX7_mixThings 14 = .ok (.if_icmp .ge 26, 3) := by decide +kernel
theorem dX7_mixThings_17 : decode cX7_mixThings 17 = .ok (.aload_n 0, 1) := by decide +kernel
theorem dX7_mixThings_18 : decode cX7_mixThings 18 = .ok (.aload_n 0, 1) := by decide +kernel
theorem dX7_mixThings_19 : decode cX7_mixThings 19 = .ok (.iload_n 1, 1) := by decide +kernel
theorem dX7_mixThings_20 : decode cX7_mixThings 20 = .ok (.bipush 11, 2) := by decide +kernel
theorem dX7_mixThings_22 : decode cX7_mixThings 22 = .ok (.idiv, 1) := by decide +kernel
theorem dX7_mixThings_23 : decode cX7_mixThings 23 = .ok (.iload_n 1, 1) := by decide +kernel
theorem dX7_mixThings_24 : decode cX7_mixThings 24 = .ok (.bipush 11, 2) := by decide +kernel
theorem dX7_mixThings_26 : decode cX7_mixThings 26 = .ok (.irem, 1) := by decide +kernel
theorem dX7_mixThings_27 : decode cX7_mixThings 27 = .ok (.invokevirtual 176, 3) := by decide +kernel
theorem dX7_mixThings_30 : decode cX7_mixThings 30 = .ok (.i2l, 1) := by decide +kernel
theorem dX7_mixThings_31 : decode cX7_mixThings 31 = .ok (.invokevirtual 215, 3) := by decide +kernel
theorem dX7_mixThings_34 : decode cX7_mixThings 34 = .ok (.iinc 1 1, 3) := by decide +kernel
theorem dX7_mixThings_37 : decode cX7_mixThings 37 = .ok (.goto (-35), 3) := by decide +kernel
theorem dX7_mixThings_40 : decode cX7_mixThings 40 = .ok (.iconst 0, 1) := by decide +kernel
theorem dX7_mixThings_41 : decode cX7_mixThings 41 = .ok (.istore_n 1, 1) := by decide +kernel
theorem dX7_mixThings_42 : decode cX7_mixThings 42 = .ok (.iload_n 1, 1) := by decide +kernel
theorem dX7_mixThings_43 : decode cX7_mixThings 43 = .ok (.iconst 3, 1) := by decide +kernel
theorem dX7_mixThings_44 : decode cX7_mixThings 44 = .ok (.aload_n 0, 1) := by decide +kernel
theorem dX7_mixThings_45 : decode cX7_mixThings 45 = .ok (.getfield 7, 3) := by decide +kernel
theorem dX7_mixThings_48 : decode cX7_mixThings 48 = .ok (.sipush 173, 3) := by decide +kernel
theorem dX7_mixThings_51 : decode cX7_mixThings 51 = .ok (.iaload, 1) := by decide +kernel
theorem dX7_mixThings_52 : decode cX7_mixThings 52 = .ok (.imul, 1) := by decide +kernel
theorem dX7_mixThings_53 : decode cX7_mixThings 53 = .ok (.if_icmp .ge 23, 3) := by decide +kernel
theorem dX7_mixThings_56 : decode cX7_mixThings 56 = .ok (.aload_n 0, 1) := by decide +kernel
theorem dX7_mixThings_57 : decode cX7_mixThings 57 = .ok (.aload_n 0, 1) := by decide +kernel
theorem dX7_mixThings_58 : decode cX7_mixThings 58 = .ok (.getfield 7, 3) := by decide +kernel
theorem dX7_mixThings_61 : decode cX7_mixThings 61 = .ok (.bipush 80, 2) := by decide +kernel
theorem dX7_mixThings_63 : decode cX7_mixThings 63 = .ok (.iload_n 1, 1) := by decide +kernel
theorem dX7_mixThings_64 : decode cX7_mixThings 64 = .ok (.iadd, 1) := by decide +kernel
theorem dX7_mixThings_65 : decode cX7_mixThings 65 = .ok (.iaload, 1) := by decide +kernel
theorem dX7_mixThings_66 : decode cX7_mixThings 66 = .ok (.i2l, 1) := by decide +kernel
theorem dX7_mixThings_67 : decode cX7_mixThings 67 = .ok (.invokevirtual 215, 3) := by decide +kernel
theorem dX7_mixThings_70 : decode cX7_mixThings 70 = .ok (.iinc 1 1, 3) := by decide +kernel
theorem dX7_mixThings_73 : decode cX7_mixThings 73 = .ok (.goto (-31), 3) := by decide +kernel
theorem dX7_mixThings_76 : decode cX7_mixThings 76 = .ok (.iconst 0, 1) := by decide +kernel
theorem dX7_mixThings_77 : decode cX7_mixThings 77 = .ok (.istore_n 1, 1) := by decide +kernel
theorem dX7_mixThings_78 : decode cX7_mixThings 78 = .ok (.iload_n 1, 1) := by decide +kernel
theorem dX7_mixThings_79 : decode cX7_mixThings 79 = .ok (.bipush 10, 2) := by decide +kernel
theorem dX7_mixThings_81 : decode cX7_mixThings 81 = .ok (.if_icmp .ge 24, 3) := by decide +kernel
theorem dX7_mixThings_84 : decode cX7_mixThings 84 = .ok (.aload_n 0, 1) := by decide +kernel
theorem dX7_mixThings_85 : decode cX7_mixThings 85 = .ok (.aload_n 0, 1) := by decide +kernel
theorem dX7_mixThings_86 : decode cX7_mixThings 86 = .ok (.iload_n 1, 1) := by decide +kernel
theorem dX7_mixThings_87 : decode cX7_mixThings 87 = .ok (.iconst 5, 1) := by decide +kernel
theorem dX7_mixThings_88 : decode cX7_mixThings 88 = .ok (.idiv, 1) := by decide +kernel
theorem dX7_mixThings_89 : decode cX7_mixThings 89 = .ok (.iload_n 1, 1) := by decide +kernel
theorem dX7_mixThings_90 : decode cX7_mixThings 90 = .ok (.iconst 5, 1) := by decide +kernel
theorem dX7_mixThings_91 : decode cX7_mixThings 91 = .ok (.irem, 1) := by decide +kernel
theorem dX7_mixThings_92 : decode cX7_mixThings 92 = .ok (.invokevirtual 179, 3) := by decide +kernel
theorem dX7_mixThings_95 : decode cX7_mixThings 95 = .ok (.i2l, 1) := by decide +kernel
theorem dX7_mixThings_96 : decode cX7_mixThings 96 = .ok (.invokevirtual 215, 3) := by decide +kernel
theorem dX7_mixThings_99 : decode cX7_mixThings 99 = .ok (.iinc 1 1, 3) := by decide +kernel
theorem dX7_mixThings_102 : decode cX7_mixThings 102 = .ok (.goto (-24), 3) := by decide +kernel
theorem dX7_mixThings_105 : decode cX7_mixThings 105 = .ok (.iconst 0, 1) := by decide +kernel
theorem dX7_mixThings_106 : decode cX7_mixThings 106 = .ok (.istore_n 1, 1) := by decide +kernel
theorem dX7_mixThings_107 : decode cX7_mixThings 107 = .ok (.iload_n 1, 1) := by decide +kernel
theorem dX7_mixThings_108 : decode cX7_mixThings 108 = .ok (.bipush 15, 2) := by decide +kernel
theorem dX7_mixThings_110 : decode cX7_mixThings 110 = .ok (.if_icmp .ge 24, 3) := by decide +kernel
theorem dX7_mixThings_113 : decode cX7_mixThings 113 = .ok (.aload_n 0, 1) := by decide +kernel
theorem dX7_mixThings_114 : decode cX7_mixThings 114 = .ok (.aload_n 0, 1) := by decide +kernel
theorem dX7_mixThings_115 : decode cX7_mixThings 115 = .ok (.iload_n 1, 1) := by decide +kernel
theorem dX7_mixThings_116 : decode cX7_mixThings 116 = .ok (.iconst 5, 1) := by decide +kernel
theorem dX7_mixThings_117 : decode cX7_mixThings 117 = .ok (.idiv, 1) := by decide +kernel
theorem dX7_mixThings_118 : decode cX7_mixThings 118 = .ok (.iload_n 1, 1) := by decide +kernel
theorem dX7_mixThings_119 : decode cX7_mixThings 119 = .ok (.iconst 5, 1) := by decide +kernel
theorem dX7_mixThings_120 : decode cX7_mixThings 120 = .ok (.irem, 1) := by decide +kernel
theorem dX7_mixThings_121 : decode cX7_mixThings 121 = .ok (.invokevirtual 185, 3) := by decide +kernel
theorem dX7_mixThings_124 : decode cX7_mixThings 124 = .ok (.i2l, 1) := by decide +kernel
theorem dX7_mixThings_125 : decode cX7_mixThings 125 = .ok (.invokevirtual 215, 3) := by decide +kernel
theorem dX7_mixThings_128 : decode cX7_mixThings 128 = .ok (.iinc 1 1, 3) := by decide +kernel
theorem dX7_mixThings_131 : decode cX7_mixThings 131 = .ok (.goto (-24), 3) := by decide +kernel
theorem dX7_mixThings_134 : decode cX7_mixThings 134 = .ok (.iconst 0, 1) := by decide +kernel
theorem dX7_mixThings_135 : decode cX7_mixThings 135 = .ok (.istore_n 1, 1) := by decide +kernel
theorem dX7_mixThings_136 : decode cX7_mixThings 136 = .ok (.iload_n 1, 1) := by decide +kernel
theorem dX7_mixThings_137 : decode cX7_mixThings 137 = .ok (.aload_n 0, 1) := by decide +kernel
theorem dX7_mixThings_138 : decode cX7_mixThings 138 = .ok (.getfield 7, 3) := by decide +kernel
theorem dX7_mixThings_141 : decode cX7_mixThings 141 = .ok (.sipush 175, 3) := by decide +kernel
theorem dX7_mixThings_144 : decode cX7_mixThings 144 = .ok (.iaload, 1) := by decide +kernel
theorem dX7_mixThings_145 : decode cX7_mixThings 145 = .ok (.if_icmp .ge 23, 3) := by decide +kernel
theorem dX7_mixThings_148 : decode cX7_mixThings 148 = .ok (.aload_n 0, 1) := by decide +kernel
theorem dX7_mixThings_149 : decode cX7_mixThings 149 = .ok (.aload_n 0, 1) := by decide +kernel
theorem dX7_mixThings_150 : decode cX7_mixThings 150 = .ok (.getfield 7, 3) := by decide +kernel
theorem dX7_mixThings_153 : decode cX7_mixThings 153 = .ok (.bipush 124, 2) := by decide +kernel
theorem dX7_mixThings_155 : decode cX7_mixThings 155 = .ok (.iload_n 1, 1) := by decide +kernel
theorem dX7_mixThings_156 : decode cX7_mixThings 156 = .ok (.iadd, 1) := by decide +kernel
theorem dX7_mixThings_157 : decode cX7_mixThings 157 = .ok (.iaload, 1) := by decide +kernel
theorem dX7_mixThings_158 : decode cX7_mixThings 158 = .ok (.i2l, 1) := by decide +kernel
theorem dX7_mixThings_159 : decode cX7_mixThings 159 = .ok (.invokevirtual 215, 3) := by decide +kernel
theorem dX7_mixThings_162 : decode cX7_mixThings 162 = .ok (.iinc 1 1, 3) := by decide +kernel
theorem dX7_mixThings_165 : decode cX7_mixThings 165 = .ok (.goto (-29), 3) := by decide +kernel
theorem dX7_mixThings_168 : decode cX7_mixThings 168 = .ok (.return_, 1) := by decide +kernel
theorem dX7_digest_0 : decode cX7_digest 0 = .ok (.aload_n 0, 1) := by decide +kernel
theorem dX7_digest_1 : decode cX7_digest 1 = .ok (.ldc2_w 219, 3) := by decide +kernel
theorem dX7_digest_4 : decode cX7_digest 4 = .ok (.putfield 211, 3) := by decide +kernel
theorem dX7_digest_7 : decode cX7_digest 7 = .ok (.iconst 0, 1) := by decide +kernel
theorem dX7_digest_8 : decode cX7_digest 8 = .ok (.istore_n 1, 1) := by decide +kernel
theorem dX7_digest_9 : decode cX7_digest 9 = .ok (.iload_n 1, 1) := by decide +kernel
theorem dX7_digest_10 : decode cX7_digest 10 = .ok (.bipush 8, 2) := by decide +kernel
theorem dX7_digest_12 : decode cX7_digest 12 = .ok (.if_icmp .ge 19, 3) := by decide +kernel
theorem dX7_digest_15 : decode cX7_digest 15 = .ok (.aload_n 0, 1) := by decide +kernel
theorem dX7_digest_16 : decode cX7_digest 16 = .ok (.aload_n 0, 1) := by decide +kernel
theorem dX7_digest_17 : decode cX7_digest 17 = .ok (.iload_n 1, 1) := by decide +kernel
theorem dX7_digest_18 : decode cX7_digest 18 = .ok (.invokevirtual 194, 3) := by decide +kernel
theorem dX7_digest_21 : decode cX7_digest 21 = .ok (.i2l, 1) := by decide +kernel
theorem dX7_digest_22 : decode cX7_digest 22 = .ok (.invokevirtual 215, 3) := by decide +kernel
theorem dX7_digest_25 : decode cX7_digest 25 = .ok (.iinc 1 1, 3) := by decide +kernel
theorem dX7_digest_28 : decode cX7_digest 28 = .ok (.goto (-19), 3) := by decide +kernel
theorem dX7_digest_31 : decode cX7_digest 31 = .ok (.iconst 0, 1) := by decide +kernel
theorem dX7_digest_32 : decode cX7_digest 32 = .ok (.istore_n 1, 1) := by decide +kernel
theorem dX7_digest_33 : decode cX7_digest 33 = .ok (.iload_n 1, 1) := by decide +kernel
theorem dX7_digest_34 : decode cX7_digest 34 = .ok (.iconst 4, 1) := by decide +kernel
theorem dX7_digest_35 : decode cX7_digest 35 = .ok (.if_icmp .ge 19, 3) := by decide +kernel
theorem dX7_digest_38 : decode cX7_digest 38 = .ok (.aload_n 0, 1) := by decide +kernel
theorem dX7_digest_39 : decode cX7_digest 39 = .ok (.aload_n 0, 1) := by decide +kernel
theorem dX7_digest_40 : decode cX7_digest 40 = .ok (.iload_n 1, 1) := by decide +kernel
theorem dX7_digest_41 : decode cX7_digest 41 = .ok (.invokevirtual 67, 3) := by decide +kernel
theorem dX7_digest_44 : decode cX7_digest 44 = .ok (.i2l, 1) := by decide +kernel
theorem dX7_digest_45 : decode cX7_digest 45 = .ok (.invokevirtual 215, 3) := by decide +kernel
theorem dX7_digest_48 : decode cX7_digest 48 = .ok (.iinc 1 1, 3) := by decide +kernel
theorem dX7_digest_51 : decode cX7_digest 51 = .ok (.goto (-18), 3) := by decide +kernel
theorem dX7_digest_54 : decode cX7_digest 54 = .ok (.iconst 0, 1) := by decide +kernel
theorem dX7_digest_55 : decode cX7_digest 55 = .ok (.istore_n 1, 1) := by decide +kernel
theorem dX7_digest_56 : decode cX7_digest 56 = .ok (.iload_n 1, 1) := by decide +kernel
theorem dX7_digest_57 : decode cX7_digest 57 = .ok (.bipush 8, 2) := by decide +kernel
theorem dX7_digest_59 : decode cX7_digest 59 = .ok (.if_icmp .ge 19, 3) := by decide +kernel
theorem dX7_digest_62 : decode cX7_digest 62 = .ok (.aload_n 0, 1) := by decide +kernel
theorem dX7_digest_63 : decode cX7_digest 63 = .ok (.aload_n 0, 1) := by decide +kernel
theorem dX7_digest_64 : decode cX7_digest 64 = .ok (.iload_n 1, 1) := by decide +kernel
theorem dX7_digest_65 : decode cX7_digest 65 = .ok (.invokevirtual 188, 3) := by decide +kernel
theorem dX7_digest_68 : decode cX7_digest 68 = .ok (.i2l, 1) := by decide +kernel
theorem dX7_digest_69 : decode cX7_digest 69 = .ok (.invokevirtual 215, 3) := by decide +kernel
theorem dX7_digest_72 : decode cX7_digest 72 = .ok (.iinc 1 1, 3) := by decide +kernel
theorem dX7_digest_75 : decode cX7_digest 75 = .ok (.goto (-19), 3) := by decide +kernel
theorem dX7_digest_78 : decode cX7_digest 78 = .ok (.aload_n 0, 1) := by decide +kernel
theorem dX7_digest_79 : decode cX7_digest 79 = .ok (.invokevirtual 221, 3) := by decide +kernel
theorem dX7_digest_82 : decode cX7_digest 82 = .ok (.iconst 0, 1) := by decide +kernel
theorem dX7_digest_83 : decode cX7_digest 83 = .ok (.istore_n 1, 1) := by decide +kernel
theorem dX7_digest_84 : decode cX7_digest 84 = .ok (.iload_n 1, 1) := by decide +kernel
theorem dX7_digest_85 : decode cX7_digest 85 = .ok (.iconst 5, 1) := by decide +kernel
theorem dX7_digest_86 : decode cX7_digest 86 = .ok (.if_icmp .ge 21, 3) := by decide +kernel
theorem dX7_digest_89 : decode cX7_digest 89 = .ok (.aload_n 0, 1) := by decide +kernel
theorem dX7_digest_90 : decode cX7_digest 90 = .ok (.aload_n 0, 1) := by decide +kernel
theorem dX7_digest_91 : decode cX7_digest 91 = .ok (.bipush 24, 2) := by decide +kernel
theorem dX7_digest_93 : decode cX7_digest 93 = .ok (.iload_n 1, 1) := by decide +kernel
theorem dX7_digest_94 : decode cX7_digest 94 = .ok (.invokevirtual 203, 3) := by decide +kernel
theorem dX7_digest_97 : decode cX7_digest 97 = .ok (.i2l, 1) := by decide +kernel
theorem dX7_digest_98 : decode cX7_digest 98 = .ok (.invokevirtual 215, 3) := by decide +kernel
theorem dX7_digest_101 : decode cX7_digest 101 = .ok (.iinc 1 1, 3) := by decide +kernel
theorem dX7_digest_104 : decode cX7_digest 104 = .ok (.goto (-20), 3) := by decide +kernel
theorem dX7_digest_107 : decode cX7_digest 107 = .ok (.aload_n 0, 1) := by decide +kernel
theorem dX7_digest_108 : decode cX7_digest 108 = .ok (.aload_n 0, 1) := by decide +kernel
theorem dX7_digest_109 : decode cX7_digest 109 = .ok (.invokevirtual 224, 3) := by decide +kernel
theorem dX7_digest_112 : decode cX7_digest 112 = .ok (.invokestatic 228, 3) := by decide +kernel
theorem dX7_digest_115 : decode cX7_digest 115 = .ok (.invokevirtual 215, 3) := by decide +kernel
theorem dX7_digest_118 : decode cX7_digest 118 = .ok (.aload_n 0, 1) := by decide +kernel
theorem dX7_digest_119 : decode cX7_digest 119 = .ok (.aload_n 0, 1) := by decide +kernel
theorem dX7_digest_120 : decode cX7_digest 120 = .ok (.getfield 133, 3) := by decide +kernel
theorem dX7_digest_123 : decode cX7_digest 123 = .ok (.i2l, 1) := by decide +kernel
theorem dX7_digest_124 : decode cX7_digest 124 = .ok (.invokevirtual 215, 3) := by decide +kernel
theorem dX7_digest_127 : decode cX7_digest 127 = .ok (.iconst 0, 1) := by decide +kernel
theorem dX7_digest_128 : decode cX7_digest 128 = .ok (.istore_n 1, 1) := by decide +kernel
theorem dX7_digest_129 : decode cX7_digest 129 = .ok (.iload_n 1, 1) := by decide +kernel
theorem dX7_digest_130 : decode cX7_digest 130 = .ok (.aload_n 0, 1) := by decide +kernel
theorem dX7_digest_131 : decode cX7_digest 131 = .ok (.getfield 133, 3) := by decide +kernel
theorem dX7_digest_134 : decode cX7_digest 134 = .ok (.if_icmp .ge 20, 3) := by decide +kernel
theorem dX7_digest_137 : decode cX7_digest 137 = .ok (.aload_n 0, 1) := by decide +kernel
theorem dX7_digest_138 : decode cX7_digest 138 = .ok (.aload_n 0, 1) := by decide +kernel
theorem dX7_digest_139 : decode cX7_digest 139 = .ok (.getfield 22, 3) := by decide +kernel
theorem dX7_digest_142 : decode cX7_digest 142 = .ok (.iload_n 1, 1) := by decide +kernel
theorem dX7_digest_143 : decode cX7_digest 143 = .ok (.iaload, 1) := by decide +kernel
theorem dX7_digest_144 : decode cX7_digest 144 = .ok (.i2l, 1) := by decide +kernel
theorem dX7_digest_145 : decode cX7_digest 145 = .ok (.invokevirtual 215, 3) := by decide +kernel
theorem dX7_digest_148 : decode cX7_digest 148 = .ok (.iinc 1 1, 3) := by decide +kernel
theorem dX7_digest_151 : decode cX7_digest 151 = .ok (.goto (-22), 3) := by decide +kernel
theorem dX7_digest_154 : decode cX7_digest 154 = .ok (.aload_n 0, 1) := by decide +kernel
theorem dX7_digest_155 : decode cX7_digest 155 = .ok (.getfield 211, 3) := by decide +kernel
theorem dX7_digest_158 : decode cX7_digest 158 = .ok (.lreturn, 1) := by decide +kernel
