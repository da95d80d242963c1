theorem dX0_init_0 : decode cX0_init 0 = .ok (.aload_n 0, 1) := by decide +kernel
theorem dX0_init_1 : decode cX0_init 1 = .ok (.invokespecial 3, 3) := by decide +kernel
theorem dX0_init_4 : decode cX0_init 4 = .ok (.aload_n 0, 1) := by decide +kernel
theorem dX0_init_5 : decode cX0_init 5 = .ok (.iconst 2, 1) := by decide +kernel
theorem dX0_init_6 : decode cX0_init 6 = .ok (.newarray .int, 2) := by decide +kernel
theorem dX0_init_8 : decode cX0_init 8 = .ok (.putfield 9, 3) := by decide +kernel
theorem dX0_init_11 : decode cX0_init 11 = .ok (.aload_n 0, 1) := by decide +kernel
theorem dX0_init_12 : decode cX0_init 12 = .ok (.iconst 2, 1) := by decide +kernel
theorem dX0_init_13 : decode cX0_init 13 = .ok (.newarray .int, 2) := by decide +kernel
theorem dX0_init_15 : decode cX0_init 15 = .ok (.putfield 15, 3) := by decide +kernel
theorem dX0_init_18 : decode cX0_init 18 = .ok (.aload_n 0, 1) := by decide +kernel
theorem dX0_init_19 : decode cX0_init 19 = .ok (.iconst 2, 1) := by decide +kernel
theorem dX0_init_20 : decode cX0_init 20 = .ok (.newarray .int, 2) := by decide +kernel
theorem dX0_init_22 : decode cX0_init 22 = .ok (.putfield 18, 3) := by decide +kernel
theorem dX0_init_25 : decode cX0_init 25 = .ok (.aload_n 0, 1) := by decide +kernel
theorem dX0_init_26 : decode cX0_init 26 = .ok (.iconst 2, 1) := by decide +kernel
theorem dX0_init_27 : decode cX0_init 27 = .ok (.newarray .int, 2) := by decide +kernel
theorem dX0_init_29 : decode cX0_init 29 = .ok (.putfield 21, 3) := by decide +kernel
theorem dX0_init_32 : decode cX0_init 32 = .ok (.iconst 0, 1) := by decide +kernel
theorem dX0_init_33 : decode cX0_init 33 = .ok (.istore_n 1, 1) := by decide +kernel
theorem dX0_init_34 : decode cX0_init 34 = .ok (.iload_n 1, 1) := by decide +kernel
theorem dX0_init_35 : decode cX0_init 35 = .ok (.iconst 2, 1) := by decide +kernel
theorem dX0_init_36 : decode cX0_init 36 = .ok (.if_icmp .ge 25, 3) := by decide +kernel
theorem dX0_init_39 : decode cX0_init 39 = .ok (.aload_n 0, 1) := by decide +kernel
theorem dX0_init_40 : decode cX0_init 40 = .ok (.getfield 15, 3) := by decide +kernel
theorem dX0_init_43 : decode cX0_init 43 = .ok (.iload_n 1, 1) := by decide +kernel
theorem dX0_init_44 : decode cX0_init 44 = .ok (.bipush 20, 2) := by decide +kernel
theorem dX0_init_46 : decode cX0_init 46 = .ok (.iastore, 1) := by decide +kernel
theorem dX0_init_47 : decode cX0_init 47 = .ok (.aload_n 0, 1) := by decide +kernel
theorem dX0_init_48 : decode cX0_init 48 = .ok (.getfield 18, 3) := by decide +kernel
theorem dX0_init_51 : decode cX0_init 51 = .ok (.iload_n 1, 1) := by decide +kernel
theorem dX0_init_52 : decode cX0_init 52 = .ok (.bipush 90, 2) := by decide +kernel
theorem dX0_init_54 : decode cX0_init 54 = .ok (.iastore, 1) := by decide +kernel
theorem dX0_init_55 : decode cX0_init 55 = .ok (.iinc 1 1, 3) := by decide +kernel
theorem dX0_init_58 : decode cX0_init 58 = .ok (.goto (-24), 3) := by decide +kernel
theorem dX0_init_61 : decode cX0_init 61 = .ok (.return_, 1) := by decide +kernel
theorem dX0_copy_0 : decode cX0_copy 0 = .ok (.aload_n 1, 1) := by decide +kernel
theorem dX0_copy_1 : decode cX0_copy 1 = .ok (.getfield 9, 3) := by decide +kernel
theorem dX0_copy_4 : decode cX0_copy 4 = .ok (.iconst 0, 1) := by decide +kernel
theorem dX0_copy_5 : decode cX0_copy 5 = .ok (.aload_n 0, 1) := by decide +kernel
theorem dX0_copy_6 : decode cX0_copy 6 = .ok (.getfield 9, 3) := by decide +kernel
theorem dX0_copy_9 : decode cX0_copy 9 = .ok (.iconst 0, 1) := by decide +kernel
theorem dX0_copy_10 : decode cX0_copy 10 = .ok (.iconst 2, 1) := by decide +kernel
theorem dX0_copy_11 : decode cX0_copy 11 = .ok (.invokestatic 24, 3) := by decide +kernel
theorem dX0_copy_14 : decode cX0_copy 14 = .ok (.aload_n 1, 1) := by decide +kernel
theorem dX0_copy_15 : decode cX0_copy 15 = .ok (.getfield 15, 3) := by decide +kernel
theorem dX0_copy_18 : decode cX0_copy 18 = .ok (.iconst 0, 1) := by decide +kernel
theorem dX0_copy_19 : decode cX0_copy 19 = .ok (.aload_n 0, 1) := by decide +kernel
theorem dX0_copy_20 : decode cX0_copy 20 = .ok (.getfield 15, 3) := by decide +kernel
theorem dX0_copy_23 : decode cX0_copy 23 = .ok (.iconst 0, 1) := by decide +kernel
theorem dX0_copy_24 : decode cX0_copy 24 = .ok (.iconst 2, 1) := by decide +kernel
theorem dX0_copy_25 : decode cX0_copy 25 = .ok (.invokestatic 24, 3) := by decide +kernel
theorem dX0_copy_28 : decode cX0_copy 28 = .ok (.aload_n 1, 1) := by decide +kernel
theorem dX0_copy_29 : decode cX0_copy 29 = .ok (.getfield 18, 3) := by decide +kernel
theorem dX0_copy_32 : decode cX0_copy 32 = .ok (.iconst 0, 1) := by decide +kernel
theorem dX0_copy_33 : decode cX0_copy 33 = .ok (.aload_n 0, 1) := by decide +kernel
theorem dX0_copy_34 : decode cX0_copy 34 = .ok (.getfield 18, 3) := by decide +kernel
theorem dX0_copy_37 : decode cX0_copy 37 = .ok (.iconst 0, 1) := by decide +kernel
theorem dX0_copy_38 : decode cX0_copy 38 = .ok (.iconst 2, 1) := by decide +kernel
theorem dX0_copy_39 : decode cX0_copy 39 = .ok (.invokestatic 24, 3) := by decide +kernel
theorem dX0_copy_42 : decode cX0_copy 42 = .ok (.aload_n 1, 1) := by decide +kernel
theorem dX0_copy_43 : decode cX0_copy 43 = .ok (.getfield 21, 3) := by decide +kernel
theorem dX0_copy_46 : decode cX0_copy 46 = .ok (.iconst 0, 1) := by decide +kernel
theorem dX0_copy_47 : decode cX0_copy 47 = .ok (.aload_n 0, 1) := by decide +kernel
theorem dX0_copy_48 : decode cX0_copy 48 = .ok (.getfield 21, 3) := by decide +kernel
theorem dX0_copy_51 : decode cX0_copy 51 = .ok (.iconst 0, 1) := by decide +kernel
theorem dX0_copy_52 : decode cX0_copy 52 = .ok (.iconst 2, 1) := by decide +kernel
theorem dX0_copy_53 : decode cX0_copy 53 = .ok (.invokestatic 24, 3) := by decide +kernel
theorem dX0_copy_56 : decode cX0_copy 56 = .ok (.return_, 1) := by decide +kernel
theorem dX0_told_0 : decode cX0_told 0 = .ok (.iload_n 2, 1) := by decide +kernel
theorem dX0_told_1 : decode cX0_told 1 = .ok (.tableswitch 59 0 3 #[31, 38, 45, 52], 31) := by decide +kernel
theorem dX0_told_32 : decode cX0_told 32 = .ok (.aload_n 0, 1) := by decide +kernel
theorem dX0_told_33 : decode cX0_told 33 = .ok (.getfield 9, 3) := by decide +kernel
theorem dX0_told_36 : decode cX0_told 36 = .ok (.iload_n 1, 1) := by decide +kernel
theorem dX0_told_37 : decode cX0_told 37 = .ok (.iaload, 1) := by decide +kernel
theorem dX0_told_38 : decode cX0_told 38 = .ok (.ireturn, 1) := by decide +kernel
theorem dX0_told_39 : decode cX0_told 39 = .ok (.aload_n 0, 1) := by decide +kernel
theorem dX0_told_40 : decode cX0_told 40 = .ok (.getfield 15, 3) := by decide +kernel
theorem dX0_told_43 : decode cX0_told 43 = .ok (.iload_n 1, 1) := by decide +kernel
theorem dX0_told_44 : decode cX0_told 44 = .ok (.iaload, 1) := by decide +kernel
theorem dX0_told_45 : decode cX0_told 45 = .ok (.ireturn, 1) := by decide +kernel
theorem dX0_told_46 : decode cX0_told 46 = .ok (.aload_n 0, 1) := by decide +kernel
theorem dX0_told_47 : decode cX0_told 47 = .ok (.getfield 18, 3) := by decide +kernel
theorem dX0_told_50 : decode cX0_told 50 = .ok (.iload_n 1, 1) := by decide +kernel
theorem dX0_told_51 : decode cX0_told 51 = .ok (.iaload, 1) := by decide +kernel
theorem dX0_told_52 : decode cX0_told 52 = .ok (.ireturn, 1) := by decide +kernel
theorem dX0_told_53 : decode cX0_told 53 = .ok (.aload_n 0, 1) := by decide +kernel
theorem dX0_told_54 : decode cX0_told 54 = .ok (.getfield 21, 3) := by decide +kernel
theorem dX0_told_57 : decode cX0_told 57 = .ok (.iload_n 1, 1) := by decide +kernel
theorem dX0_told_58 : decode cX0_told 58 = .ok (.iaload, 1) := by decide +kernel
theorem dX0_told_59 : decode cX0_told 59 = .ok (.ireturn, 1) := by decide +kernel
theorem dX0_told_60 : decode cX0_told 60 = .ok (.aload_n 0, 1) := by decide +kernel
theorem dX0_told_61 : decode cX0_told 61 = .ok (.iload_n 1, 1) := by decide +kernel
theorem dX0_told_62 : decode cX0_told 62 = .ok (.invokevirtual 30, 3) := by decide +kernel
theorem dX0_told_65 : decode cX0_told 65 = .ok (.ireturn, 1) := by decide +kernel
theorem dX0_change_0 : decode cX0_change 0 = .ok (.iload_n 2, 1) := by decide +kernel
theorem dX0_change_1 : decode cX0_change 1 = .ok (.lookupswitch 47 #[(0, 27), (1, 37)], 27) := by decide +kernel
theorem dX0_change_28 : decode cX0_change 28 = .ok (.aload_n 0, 1) := by decide +kernel
theorem dX0_change_29 : decode cX0_change 29 = .ok (.getfield 9, 3) := by decide +kernel
theorem dX0_change_32 : decode cX0_change 32 = .ok (.iload_n 1, 1) := by decide +kernel
theorem dX0_change_33 : decode cX0_change 33 = .ok (.iload_n 3, 1) := by decide +kernel
theorem dX0_change_34 : decode cX0_change 34 = .ok (.iastore, 1) := by decide +kernel
theorem dX0_change_35 : decode cX0_change 35 = .ok (.goto 20, 3) := by decide +kernel
theorem dX0_change_38 : decode cX0_change 38 = .ok (.aload_n 0, 1) := by decide +kernel
theorem dX0_change_39 : decode cX0_change 39 = .ok (.getfield 15, 3) := by decide +kernel
theorem dX0_change_42 : decode cX0_change 42 = .ok (.iload_n 1, 1) := by decide +kernel
theorem dX0_change_43 : decode cX0_change 43 = .ok (.iload_n 3, 1) := by decide +kernel
theorem dX0_change_44 : decode cX0_change 44 = .ok (.iastore, 1) := by decide +kernel
theorem dX0_change_45 : decode cX0_change 45 = .ok (.goto 10, 3) := by decide +kernel
theorem dX0_change_48 : decode cX0_change 48 = .ok (.aload_n 0, 1) := by decide +kernel
theorem dX0_change_49 : decode cX0_change 49 = .ok (.getfield 18, 3) := by decide +kernel
theorem dX0_change_52 : decode cX0_change 52 = .ok (.iload_n 1, 1) := by decide +kernel
theorem dX0_change_53 : decode cX0_change 53 = .ok (.iload_n 3, 1) := by decide +kernel
theorem dX0_change_54 : decode cX0_change 54 = .ok (.iastore, 1) := by decide +kernel
theorem dX0_change_55 : decode cX0_change 55 = .ok (.return_, 1) := by decide +kernel
theorem dX0_discardExcess_0 : decode cX0_discardExcess 0 = .ok (.iconst 0, 1) := by decide +kernel
theorem dX0_discardExcess_1 : decode cX0_discardExcess 1 = .ok (.aload_n 0, 1) := by decide +kernel
theorem dX0_discardExcess_2 : decode cX0_discardExcess 2 = .ok (.getfield 21, 3) := by decide +kernel
theorem dX0_discardExcess_5 : decode cX0_discardExcess 5 = .ok (.iload_n 1, 1) := by decide +kernel
theorem dX0_discardExcess_6 : decode cX0_discardExcess 6 = .ok (.iaload, 1) := by decide +kernel
theorem dX0_discardExcess_7 : decode cX0_discardExcess 7 = .ok (.aload_n 0, 1) := by decide +kernel
theorem dX0_discardExcess_8 : decode cX0_discardExcess 8 = .ok (.getfield 9, 3) := by decide +kernel
theorem dX0_discardExcess_11 : decode cX0_discardExcess 11 = .ok (.iload_n 1, 1) := by decide +kernel
theorem dX0_discardExcess_12 : decode cX0_discardExcess 12 = .ok (.iaload, 1) := by decide +kernel
theorem dX0_discardExcess_13 : decode cX0_discardExcess 13 = .ok (.isub, 1) := by decide +kernel
theorem dX0_discardExcess_14 : decode cX0_discardExcess 14 = .ok (.invokestatic 34, 3) := by decide +kernel
theorem dX0_discardExcess_17 : decode cX0_discardExcess 17 = .ok (.istore_n 2, 1) := by decide +kernel
theorem dX0_discardExcess_18 : decode cX0_discardExcess 18 = .ok (.aload_n 0, 1) := by decide +kernel
theorem dX0_discardExcess_19 : decode cX0_discardExcess 19 = .ok (.getfield 21, 3) := by decide +kernel
theorem dX0_discardExcess_22 : decode cX0_discardExcess 22 = .ok (.iload_n 1, 1) := by decide +kernel
theorem dX0_discardExcess_23 : decode cX0_discardExcess 23 = .ok (.dup2, 1) := by decide +kernel
theorem dX0_discardExcess_24 : decode cX0_discardExcess 24 = .ok (.iaload, 1) := by decide +kernel
theorem dX0_discardExcess_25 : decode cX0_discardExcess 25 = .ok (.iload_n 2, 1) := by decide +kernel
theorem dX0_discardExcess_26 : decode cX0_discardExcess 26 = .ok (.isub, 1) := by decide +kernel
theorem dX0_discardExcess_27 : decode cX0_discardExcess 27 = .ok (.iastore, 1) := by decide +kernel
theorem dX0_discardExcess_28 : decode cX0_discardExcess 28 = .ok (.iload_n 2, 1) := by decide +kernel
theorem dX0_discardExcess_29 : decode cX0_discardExcess 29 = .ok (.ireturn, 1) := by decide +kernel
theorem dX0_chargeOfAll_0 : decode cX0_chargeOfAll 0 = .ok (.aload_n 0, 1) := by decide +kernel
theorem dX0_chargeOfAll_1 : decode cX0_chargeOfAll 1 = .ok (.getfield 21, 3) := by decide +kernel
theorem dX0_chargeOfAll_4 : decode cX0_chargeOfAll 4 = .ok (.iconst 0, 1) := by decide +kernel
theorem dX0_chargeOfAll_5 : decode cX0_chargeOfAll 5 = .ok (.iaload, 1) := by decide +kernel
theorem dX0_chargeOfAll_6 : decode cX0_chargeOfAll 6 = .ok (.aload_n 0, 1) := by decide +kernel
theorem dX0_chargeOfAll_7 : decode cX0_chargeOfAll 7 = .ok (.getfield 21, 3) := by decide +kernel
theorem dX0_chargeOfAll_10 : decode cX0_chargeOfAll 10 = .ok (.iconst 1, 1) := by decide +kernel
theorem dX0_chargeOfAll_11 : decode cX0_chargeOfAll 11 = .ok (.iaload, 1) := by decide +kernel
theorem dX0_chargeOfAll_12 : decode cX0_chargeOfAll 12 = .ok (.iadd, 1) := by decide +kernel
theorem dX0_chargeOfAll_13 : decode cX0_chargeOfAll 13 = .ok (.ireturn, 1) := by decide +kernel
theorem dX0_canGive_0 : decode cX0_canGive 0 = .ok (.aload_n 0, 1) := by decide +kernel
theorem dX0_canGive_1 : decode cX0_canGive 1 = .ok (.getfield 21, 3) := by decide +kernel
theorem dX0_canGive_4 : decode cX0_canGive 4 = .ok (.iload_n 1, 1) := by decide +kernel
theorem dX0_canGive_5 : decode cX0_canGive 5 = .ok (.iaload, 1) := by decide +kernel
theorem dX0_canGive_6 : decode cX0_canGive 6 = .ok (.aload_n 0, 1) := by decide +kernel
theorem dX0_canGive_7 : decode cX0_canGive 7 = .ok (.getfield 15, 3) := by decide +kernel
theorem dX0_canGive_10 : decode cX0_canGive 10 = .ok (.iload_n 1, 1) := by decide +kernel
theorem dX0_canGive_11 : decode cX0_canGive 11 = .ok (.iaload, 1) := by decide +kernel
theorem dX0_canGive_12 : decode cX0_canGive 12 = .ok (.invokestatic 40, 3) := by decide +kernel
theorem dX0_canGive_15 : decode cX0_canGive 15 = .ok (.ireturn, 1) := by decide +kernel
theorem dX0_canGiveAll_0 : decode cX0_canGiveAll 0 = .ok (.aload_n 0, 1) := by decide +kernel
theorem dX0_canGiveAll_1 : decode cX0_canGiveAll 1 = .ok (.iconst 0, 1) := by decide +kernel
theorem dX0_canGiveAll_2 : decode cX0_canGiveAll 2 = .ok (.invokevirtual 30, 3) := by decide +kernel
theorem dX0_canGiveAll_5 : decode cX0_canGiveAll 5 = .ok (.aload_n 0, 1) := by decide +kernel
theorem dX0_canGiveAll_6 : decode cX0_canGiveAll 6 = .ok (.iconst 1, 1) := by decide +kernel
theorem dX0_canGiveAll_7 : decode cX0_canGiveAll 7 = .ok (.invokevirtual 30, 3) := by decide +kernel
theorem dX0_canGiveAll_10 : decode cX0_canGiveAll 10 = .ok (.iadd, 1) := by decide +kernel
theorem dX0_canGiveAll_11 : decode cX0_canGiveAll 11 = .ok (.ireturn, 1) := by decide +kernel
theorem dX0_give_0 : decode cX0_give 0 = .ok (.iload_n 1, 1) := by decide +kernel
theorem dX0_give_1 : decode cX0_give 1 = .ok (.istore_n 2, 1) := by decide +kernel
theorem dX0_give_2 : decode cX0_give 2 = .ok (.iconst 0, 1) := by decide +kernel
theorem dX0_give_3 : decode cX0_give 3 = .ok (.istore_n 3, 1) := by decide +kernel
theorem dX0_give_4 : decode cX0_give 4 = .ok (.iload_n 3, 1) := by decide +kernel
theorem dX0_give_5 : decode cX0_give 5 = .ok (.iconst 2, 1) := by decide +kernel
theorem dX0_give_6 : decode cX0_give 6 = .ok (.if_icmp .ge 36, 3) := by decide +kernel
theorem dX0_give_9 : decode cX0_give 9 = .ok (.iload_n 2, 1) := by decide +kernel
theorem dX0_give_10 : decode cX0_give 10 = .ok (.aload_n 0, 1) := by decide +kernel
theorem dX0_give_11 : decode cX0_give 11 = .ok (.iload_n 3, 1) := by decide +kernel
theorem dX0_give_12 : decode cX0_give 12 = .ok (.invokevirtual 30, 3) := by decide +kernel
theorem dX0_give_15 : decode cX0_give 15 = .ok (.invokestatic 40, 3) := by decide +kernel
theorem dX0_give_18 : decode cX0_give 18 = .ok (.istore 4, 2) := by decide +kernel
theorem dX0_give_20 : decode cX0_give 20 = .ok (.aload_n 0, 1) := by decide +kernel
theorem dX0_give_21 : decode cX0_give 21 = .ok (.getfield 21, 3) := by decide +kernel
theorem dX0_give_24 : decode cX0_give 24 = .ok (.iload_n 3, 1) := by decide +kernel
theorem dX0_give_25 : decode cX0_give 25 = .ok (.dup2, 1) := by decide +kernel
theorem dX0_give_26 : decode cX0_give 26 = .ok (.iaload, 1) := by decide +kernel
theorem dX0_give_27 : decode cX0_give 27 = .ok (.iload 4, 2) := by decide +kernel
theorem dX0_give_29 : decode cX0_give 29 = .ok (.isub, 1) := by decide +kernel
theorem dX0_give_30 : decode cX0_give 30 = .ok (.iastore, 1) := by decide +kernel
theorem dX0_give_31 : decode cX0_give 31 = .ok (.iload_n 2, 1) := by decide +kernel
theorem dX0_give_32 : decode cX0_give 32 = .ok (.iload 4, 2) := by decide +kernel
theorem dX0_give_34 : decode cX0_give 34 = .ok (.isub, 1) := by decide +kernel
theorem dX0_give_35 : decode cX0_give 35 = .ok (.istore_n 2, 1) := by decide +kernel
theorem dX0_give_36 : decode cX0_give 36 = .ok (.iinc 3 1, 3) := by decide +kernel
theorem dX0_give_39 : decode cX0_give 39 = .ok (.goto (-35), 3) := by decide +kernel
theorem dX0_give_42 : decode cX0_give 42 = .ok (.return_, 1) := by decide +kernel
theorem dX0_canTake_0 : decode cX0_canTake 0 = .ok (.aload_n 0, 1) := by decide +kernel
theorem dX0_canTake_1 : decode cX0_canTake 1 = .ok (.getfield 18, 3) := by decide +kernel
theorem dX0_canTake_4 : decode cX0_canTake 4 = .ok (.iload_n 1, 1) := by decide +kernel
theorem dX0_canTake_5 : decode cX0_canTake 5 = .ok (.iaload, 1) := by decide +kernel
theorem dX0_canTake_6 : decode cX0_canTake 6 = .ok (.istore_n 3, 1) := by decide +kernel
theorem dX0_canTake_7 : decode cX0_canTake 7 = .ok (.aload_n 0, 1) := by decide +kernel
theorem dX0_canTake_8 : decode cX0_canTake 8 = .ok (.getfield 9, 3) := by decide +kernel
theorem dX0_canTake_11 : decode cX0_canTake 11 = .ok (.iload_n 1, 1) := by decide +kernel
theorem dX0_canTake_12 : decode cX0_canTake 12 = .ok (.iaload, 1) := by decide +kernel
theorem dX0_canTake_13 : decode cX0_canTake 13 = .ok (.aload_n 0, 1) := by decide +kernel
theorem dX0_canTake_14 : decode cX0_canTake 14 = .ok (.getfield 21, 3) := by decide +kernel
theorem dX0_canTake_17 : decode cX0_canTake 17 = .ok (.iload_n 1, 1) := by decide +kernel
theorem dX0_canTake_18 : decode cX0_canTake 18 = .ok (.iaload, 1) := by decide +kernel
theorem dX0_canTake_19 : decode cX0_canTake 19 = .ok (.isub, 1) := by decide +kernel
theorem dX0_canTake_20 : decode cX0_canTake 20 = .ok (.istore 4, 2) := by decide +kernel
theorem dX0_canTake_22 : decode cX0_canTake 22 = .ok (.iload_n 3, 1) := by decide +kernel
theorem dX0_canTake_23 : decode cX0_canTake 23 = .ok (.ifCond .le 16, 3) := by decide +kernel
theorem dX0_canTake_26 : decode cX0_canTake 26 = .ok (.iload 4, 2) := by decide +kernel
theorem dX0_canTake_28 : decode cX0_canTake 28 = .ok (.bipush 100, 2) := by decide +kernel
theorem dX0_canTake_30 : decode cX0_canTake 30 = .ok (.imul, 1) := by decide +kernel
theorem dX0_canTake_31 : decode cX0_canTake 31 = .ok (.bipush 99, 2) := by decide +kernel
theorem dX0_canTake_33 : decode cX0_canTake 33 = .ok (.iadd, 1) := by decide +kernel
theorem dX0_canTake_34 : decode cX0_canTake 34 = .ok (.iload_n 3, 1) := by decide +kernel
theorem dX0_canTake_35 : decode cX0_canTake 35 = .ok (.idiv, 1) := by decide +kernel
theorem dX0_canTake_36 : decode cX0_canTake 36 = .ok (.goto 4, 3) := by decide +kernel
theorem dX0_canTake_39 : decode cX0_canTake 39 = .ok (.iconst 0, 1) := by decide +kernel
theorem dX0_canTake_40 : decode cX0_canTake 40 = .ok (.istore 5, 2) := by decide +kernel
theorem dX0_canTake_42 : decode cX0_canTake 42 = .ok (.iload 5, 2) := by decide +kernel
theorem dX0_canTake_44 : decode cX0_canTake 44 = .ok (.aload_n 0, 1) := by decide +kernel
theorem dX0_canTake_45 : decode cX0_canTake 45 = .ok (.getfield 15, 3) := by decide +kernel
theorem dX0_canTake_48 : decode cX0_canTake 48 = .ok (.iload_n 1, 1) := by decide +kernel
theorem dX0_canTake_49 : decode cX0_canTake 49 = .ok (.iaload, 1) := by decide +kernel
theorem dX0_canTake_50 : decode cX0_canTake 50 = .ok (.iload_n 2, 1) := by decide +kernel
theorem dX0_canTake_51 : decode cX0_canTake 51 = .ok (.invokestatic 40, 3) := by decide +kernel
theorem dX0_canTake_54 : decode cX0_canTake 54 = .ok (.invokestatic 40, 3) := by decide +kernel
theorem dX0_canTake_57 : decode cX0_canTake 57 = .ok (.ireturn, 1) := by decide +kernel
theorem dX0_takeIn_0 : decode cX0_takeIn 0 = .ok (.iload_n 2, 1) := by decide +kernel
theorem dX0_takeIn_1 : decode cX0_takeIn 1 = .ok (.aload_n 0, 1) := by decide +kernel
theorem dX0_takeIn_2 : decode cX0_takeIn 2 = .ok (.getfield 18, 3) := by decide +kernel
theorem dX0_takeIn_5 : decode cX0_takeIn 5 = .ok (.iload_n 1, 1) := by decide +kernel
theorem dX0_takeIn_6 : decode cX0_takeIn 6 = .ok (.iaload, 1) := by decide +kernel
theorem dX0_takeIn_7 : decode cX0_takeIn 7 = .ok (.imul, 1) := by decide +kernel
theorem dX0_takeIn_8 : decode cX0_takeIn 8 = .ok (.bipush 100, 2) := by decide +kernel
theorem dX0_takeIn_10 : decode cX0_takeIn 10 = .ok (.idiv, 1) := by decide +kernel
theorem dX0_takeIn_11 : decode cX0_takeIn 11 = .ok (.istore_n 3, 1) := by decide +kernel
theorem dX0_takeIn_12 : decode cX0_takeIn 12 = .ok (.aload_n 0, 1) := by decide +kernel
theorem dX0_takeIn_13 : decode cX0_takeIn 13 = .ok (.getfield 21, 3) := by decide +kernel
theorem dX0_takeIn_16 : decode cX0_takeIn 16 = .ok (.iload_n 1, 1) := by decide +kernel
theorem dX0_takeIn_17 : decode cX0_takeIn 17 = .ok (.dup2, 1) := by decide +kernel
theorem dX0_takeIn_18 : decode cX0_takeIn 18 = .ok (.iaload, 1) := by decide +kernel
theorem dX0_takeIn_19 : decode cX0_takeIn 19 = .ok (.iload_n 3, 1) := by decide +kernel
theorem dX0_takeIn_20 : decode cX0_takeIn 20 = .ok (.iadd, 1) := by decide +kernel
theorem dX0_takeIn_21 : decode cX0_takeIn 21 = .ok (.iastore, 1) := by decide +kernel
theorem dX0_takeIn_22 : decode cX0_takeIn 22 = .ok (.iload_n 3, 1) := by decide +kernel
theorem dX0_takeIn_23 : decode cX0_takeIn 23 = .ok (.ireturn, 1) := by decide +kernel
theorem dX1_init_0 : decode cX1_init 0 = .ok (.aload_n 0, 1) := by decide +kernel
theorem dX1_init_1 : decode cX1_init 1 = .ok (.invokespecial 3, 3) := by decide +kernel
theorem dX1_init_4 : decode cX1_init 4 = .ok (.aload_n 0, 1) := by decide +kernel
theorem dX1_init_5 : decode cX1_init 5 = .ok (.bipush 8, 2) := by decide +kernel
theorem dX1_init_7 : decode cX1_init 7 = .ok (.anewarray 9, 3) := by decide +kernel
theorem dX1_init_10 : decode cX1_init 10 = .ok (.putfield 11, 3) := by decide +kernel
theorem dX1_init_13 : decode cX1_init 13 = .ok (.iconst 0, 1) := by decide +kernel
theorem dX1_init_14 : decode cX1_init 14 = .ok (.istore_n 1, 1) := by decide +kernel
theorem dX1_init_15 : decode cX1_init 15 = .ok (.iload_n 1, 1) := by decide +kernel
theorem dX1_init_16 : decode cX1_init 16 = .ok (.bipush 8, 2) := by decide +kernel
theorem dX1_init_18 : decode cX1_init 18 = .ok (.if_icmp .ge 22, 3) := by decide +kernel
theorem dX1_init_21 : decode cX1_init 21 = .ok (.aload_n 0, 1) := by decide +kernel
theorem dX1_init_22 : decode cX1_init 22 = .ok (.getfield 11, 3) := by decide +kernel
theorem dX1_init_25 : decode cX1_init 25 = .ok (.iload_n 1, 1) := by decide +kernel
theorem dX1_init_26 : decode cX1_init 26 = .ok (.new 9, 3) := by decide +kernel
theorem dX1_init_29 : decode cX1_init 29 = .ok (.dup, 1) := by decide +kernel
theorem dX1_init_30 : decode cX1_init 30 = .ok (.invokespecial 17, 3) := by decide +kernel
theorem dX1_init_33 : decode cX1_init 33 = .ok (.aastore, 1) := by decide +kernel
theorem dX1_init_34 : decode cX1_init 34 = .ok (.iinc 1 1, 3) := by decide +kernel
theorem dX1_init_37 : decode cX1_init 37 = .ok (.goto (-22), 3) := by decide +kernel
theorem dX1_init_40 : decode cX1_init 40 = .ok (.return_, 1) := by decide +kernel
theorem dX1_record_0 : decode cX1_record 0 = .ok (.aload_n 0, 1) := by decide +kernel
theorem dX1_record_1 : decode cX1_record 1 = .ok (.getfield 18, 3) := by decide +kernel
theorem dX1_record_4 : decode cX1_record 4 = .ok (.bipush 8, 2) := by decide +kernel
theorem dX1_record_6 : decode cX1_record 6 = .ok (.if_icmp .lt 7, 3) := by decide +kernel
theorem dX1_record_9 : decode cX1_record 9 = .ok (.aload_n 0, 1) := by decide +kernel
theorem dX1_record_10 : decode cX1_record 10 = .ok (.invokevirtual 22, 3) := by decide +kernel
theorem dX1_record_13 : decode cX1_record 13 = .ok (.aload_n 0, 1) := by decide +kernel
theorem dX1_record_14 : decode cX1_record 14 = .ok (.getfield 11, 3) := by decide +kernel
theorem dX1_record_17 : decode cX1_record 17 = .ok (.aload_n 0, 1) := by decide +kernel
theorem dX1_record_18 : decode cX1_record 18 = .ok (.getfield 18, 3) := by decide +kernel
theorem dX1_record_21 : decode cX1_record 21 = .ok (.aaload, 1) := by decide +kernel
theorem dX1_record_22 : decode cX1_record 22 = .ok (.aload_n 1, 1) := by decide +kernel
theorem dX1_record_23 : decode cX1_record 23 = .ok (.invokevirtual 25, 3) := by decide +kernel
theorem dX1_record_26 : decode cX1_record 26 = .ok (.aload_n 0, 1) := by decide +kernel
theorem dX1_record_27 : decode cX1_record 27 = .ok (.dup, 1) := by decide +kernel
theorem dX1_record_28 : decode cX1_record 28 = .ok (.getfield 18, 3) := by decide +kernel
theorem dX1_record_31 : decode cX1_record 31 = .ok (.iconst 1, 1) := by decide +kernel
theorem dX1_record_32 : decode cX1_record 32 = .ok (.iadd, 1) := by decide +kernel
theorem dX1_record_33 : decode cX1_record 33 = .ok (.putfield 18, 3) := by decide +kernel
theorem dX1_record_36 : decode cX1_record 36 = .ok (.return_, 1) := by decide +kernel
theorem dX1_dropOldest_0 : decode cX1_dropOldest 0 = .ok (.aload_n 0, 1) := by decide +kernel
theorem dX1_dropOldest_1 : decode cX1_dropOldest 1 = .ok (.getfield 11, 3) := by decide +kernel
theorem dX1_dropOldest_4 : decode cX1_dropOldest 4 = .ok (.iconst 0, 1) := by decide +kernel
theorem dX1_dropOldest_5 : decode cX1_dropOldest 5 = .ok (.aaload, 1) := by decide +kernel
theorem dX1_dropOldest_6 : decode cX1_dropOldest 6 = .ok (.astore_n 1, 1) := by decide +kernel
theorem dX1_dropOldest_7 : decode cX1_dropOldest 7 = .ok (.iconst 0, 1) := by decide +kernel
theorem dX1_dropOldest_8 : decode cX1_dropOldest 8 = .ok (.istore_n 2, 1) := by decide +kernel
theorem dX1_dropOldest_9 : decode cX1_dropOldest 9 = .ok (.iload_n 2, 1) := by decide +kernel
theorem dX1_dropOldest_10 : decode cX1_dropOldest 10 = .ok (.bipush 7, 2) := by decide +kernel
theorem dX1_dropOldest_12 : decode cX1_dropOldest 12 = .ok (.if_icmp .ge 23, 3) := by decide +kernel
theorem dX1_dropOldest_15 : decode cX1_dropOldest 15 = .ok (.aload_n 0, 1) := by decide +kernel
theorem dX1_dropOldest_16 : decode cX1_dropOldest 16 = .ok (.getfield 11, 3) := by decide +kernel
theorem dX1_dropOldest_19 : decode cX1_dropOldest 19 = .ok (.iload_n 2, 1) := by decide +kernel
theorem dX1_dropOldest_20 : decode cX1_dropOldest 20 = .ok (.aload_n 0, 1) := by decide +kernel
theorem dX1_dropOldest_21 : decode cX1_dropOldest 21 = .ok (.getfield 11, 3) := by decide +kernel
theorem dX1_dropOldest_24 : decode cX1_dropOldest 24 = .ok (.iload_n 2, 1) := by decide +kernel
theorem dX1_dropOldest_25 : decode cX1_dropOldest 25 = .ok (.iconst 1, 1) := by decide +kernel
theorem dX1_dropOldest_26 : decode cX1_dropOldest 26 = .ok (.iadd, 1) := by decide +kernel
theorem dX1_dropOldest_27 : decode cX1_dropOldest 27 = .ok (.aaload, 1) := by decide +kernel
theorem dX1_dropOldest_28 : decode cX1_dropOldest 28 = .ok (.aastore, 1) := by decide +kernel
theorem dX1_dropOldest_29 : decode cX1_dropOldest 29 = .ok (.iinc 2 1, 3) := by decide +kernel
theorem dX1_dropOldest_32 : decode cX1_dropOldest 32 = .ok (.goto (-23), 3) := by decide +kernel
theorem dX1_dropOldest_35 : decode cX1_dropOldest 35 = .ok (.aload_n 0, 1) := by decide +kernel
theorem dX1_dropOldest_36 : decode cX1_dropOldest 36 = .ok (.getfield 11, 3) := by decide +kernel
theorem dX1_dropOldest_39 : decode cX1_dropOldest 39 = .ok (.bipush 7, 2) := by decide +kernel
theorem dX1_dropOldest_41 : decode cX1_dropOldest 41 = .ok (.aload_n 1, 1) := by decide +kernel
theorem dX1_dropOldest_42 : decode cX1_dropOldest 42 = .ok (.aastore, 1) := by decide +kernel
theorem dX1_dropOldest_43 : decode cX1_dropOldest 43 = .ok (.aload_n 0, 1) := by decide +kernel
theorem dX1_dropOldest_44 : decode cX1_dropOldest 44 = .ok (.dup, 1) := by decide +kernel
theorem dX1_dropOldest_45 : decode cX1_dropOldest 45 = .ok (.getfield 18, 3) := by decide +kernel
theorem dX1_dropOldest_48 : decode cX1_dropOldest 48 = .ok (.iconst 1, 1) := by decide +kernel
theorem dX1_dropOldest_49 : decode cX1_dropOldest 49 = .ok (.isub, 1) := by decide +kernel
theorem dX1_dropOldest_50 : decode cX1_dropOldest 50 = .ok (.putfield 18, 3) := by decide +kernel
theorem dX1_dropOldest_53 : decode cX1_dropOldest 53 = .ok (.return_, 1) := by decide +kernel
theorem dX2_init_0 : decode cX2_init 0 = .ok (.aload_n 0, 1) := by decide +kernel
theorem dX2_init_1 : decode cX2_init 1 = .ok (.invokespecial 3, 3) := by decide +kernel
theorem dX2_init_4 : decode cX2_init 4 = .ok (.aload_n 0, 1) := by decide +kernel
theorem dX2_init_5 : decode cX2_init 5 = .ok (.bipush 10, 2) := by decide +kernel
theorem dX2_init_7 : decode cX2_init 7 = .ok (.newarray .int, 2) := by decide +kernel
theorem dX2_init_9 : decode cX2_init 9 = .ok (.putfield 9, 3) := by decide +kernel
theorem dX2_init_12 : decode cX2_init 12 = .ok (.aload_n 0, 1) := by decide +kernel
theorem dX2_init_13 : decode cX2_init 13 = .ok (.bipush 10, 2) := by decide +kernel
theorem dX2_init_15 : decode cX2_init 15 = .ok (.newarray .int, 2) := by decide +kernel
theorem dX2_init_17 : decode cX2_init 17 = .ok (.putfield 15, 3) := by decide +kernel
theorem dX2_init_20 : decode cX2_init 20 = .ok (.aload_n 0, 1) := by decide +kernel
theorem dX2_init_21 : decode cX2_init 21 = .ok (.bipush 10, 2) := by decide +kernel
theorem dX2_init_23 : decode cX2_init 23 = .ok (.newarray .int, 2) := by decide +kernel
theorem dX2_init_25 : decode cX2_init 25 = .ok (.putfield 18, 3) := by decide +kernel
theorem dX2_init_28 : decode cX2_init 28 = .ok (.aload_n 0, 1) := by decide +kernel
theorem dX2_init_29 : decode cX2_init 29 = .ok (.bipush 10, 2) := by decide +kernel
theorem dX2_init_31 : decode cX2_init 31 = .ok (.newarray .int, 2) := by decide +kernel
theorem dX2_init_33 : decode cX2_init 33 = .ok (.putfield 21, 3) := by decide +kernel
theorem dX2_init_36 : decode cX2_init 36 = .ok (.aload_n 0, 1) := by decide +kernel
theorem dX2_init_37 : decode cX2_init 37 = .ok (.bipush 10, 2) := by decide +kernel
theorem dX2_init_39 : decode cX2_init 39 = .ok (.newarray .int, 2) := by decide +kernel
theorem dX2_init_41 : decode cX2_init 41 = .ok (.putfield 24, 3) := by decide +kernel
theorem dX2_init_44 : decode cX2_init 44 = .ok (.aload_n 0, 1) := by decide +kernel
theorem dX2_init_45 : decode cX2_init 45 = .ok (.bipush 10, 2) := by decide +kernel
theorem dX2_init_47 : decode cX2_init 47 = .ok (.newarray .int, 2) := by decide +kernel
theorem dX2_init_49 : decode cX2_init 49 = .ok (.putfield 27, 3) := by decide +kernel
theorem dX2_init_52 : decode cX2_init 52 = .ok (.aload_n 0, 1) := by decide +kernel
theorem dX2_init_53 : decode cX2_init 53 = .ok (.bipush 10, 2) := by decide +kernel
theorem dX2_init_55 : decode cX2_init 55 = .ok (.newarray .int, 2) := by decide +kernel
theorem dX2_init_57 : decode cX2_init 57 = .ok (.putfield 30, 3) := by decide +kernel
theorem dX2_init_60 : decode cX2_init 60 = .ok (.aload_n 0, 1) := by decide +kernel
theorem dX2_init_61 : decode cX2_init 61 = .ok (.bipush 10, 2) := by decide +kernel
theorem dX2_init_63 : decode cX2_init 63 = .ok (.newarray .int, 2) := by decide +kernel
theorem dX2_init_65 : decode cX2_init 65 = .ok (.putfield 33, 3) := by decide +kernel
theorem dX2_init_68 : decode cX2_init 68 = .ok (.aload_n 0, 1) := by decide +kernel
theorem dX2_init_69 : decode cX2_init 69 = .ok (.bipush 10, 2) := by decide +kernel
theorem dX2_init_71 : decode cX2_init 71 = .ok (.newarray .int, 2) := by decide +kernel
theorem dX2_init_73 : decode cX2_init 73 = .ok (.putfield 36, 3) := by decide +kernel
theorem dX2_init_76 : decode cX2_init 76 = .ok (.aload_n 0, 1) := by decide +kernel
theorem dX2_init_77 : decode cX2_init 77 = .ok (.bipush 10, 2) := by decide +kernel
theorem dX2_init_79 : decode cX2_init 79 = .ok (.newarray .int, 2) := by decide +kernel
theorem dX2_init_81 : decode cX2_init 81 = .ok (.putfield 39, 3) := by decide +kernel
theorem dX2_init_84 : decode cX2_init 84 = .ok (.return_, 1) := by decide +kernel
theorem dX2_add_0 : decode cX2_add 0 = .ok (.aload_n 0, 1) := by decide +kernel
theorem dX2_add_1 : decode cX2_add 1 = .ok (.getfield 42, 3) := by decide +kernel
theorem dX2_add_4 : decode cX2_add 4 = .ok (.istore_n 3, 1) := by decide +kernel
theorem dX2_add_5 : decode cX2_add 5 = .ok (.aload_n 0, 1) := by decide +kernel
theorem dX2_add_6 : decode cX2_add 6 = .ok (.getfield 9, 3) := by decide +kernel
theorem dX2_add_9 : decode cX2_add 9 = .ok (.iload_n 3, 1) := by decide +kernel
theorem dX2_add_10 : decode cX2_add 10 = .ok (.iload_n 1, 1) := by decide +kernel
theorem dX2_add_11 : decode cX2_add 11 = .ok (.iastore, 1) := by decide +kernel
theorem dX2_add_12 : decode cX2_add 12 = .ok (.aload_n 0, 1) := by decide +kernel
theorem dX2_add_13 : decode cX2_add 13 = .ok (.getfield 15, 3) := by decide +kernel
theorem dX2_add_16 : decode cX2_add 16 = .ok (.iload_n 3, 1) := by decide +kernel
theorem dX2_add_17 : decode cX2_add 17 = .ok (.iload_n 2, 1) := by decide +kernel
theorem dX2_add_18 : decode cX2_add 18 = .ok (.iastore, 1) := by decide +kernel
theorem dX2_add_19 : decode cX2_add 19 = .ok (.aload_n 0, 1) := by decide +kernel
theorem dX2_add_20 : decode cX2_add 20 = .ok (.getfield 18, 3) := by decide +kernel
theorem dX2_add_23 : decode cX2_add 23 = .ok (.iload_n 3, 1) := by decide +kernel
theorem dX2_add_24 : decode cX2_add 24 = .ok (.iconst 0, 1) := by decide +kernel
theorem dX2_add_25 : decode cX2_add 25 = .ok (.iastore, 1) := by decide +kernel
theorem dX2_add_26 : decode cX2_add 26 = .ok (.aload_n 0, 1) := by decide +kernel
theorem dX2_add_27 : decode cX2_add 27 = .ok (.getfield 21, 3) := by decide +kernel
theorem dX2_add_30 : decode cX2_add 30 = .ok (.iload_n 3, 1) := by decide +kernel
theorem dX2_add_31 : decode cX2_add 31 = .ok (.iconst 1, 1) := by decide +kernel
theorem dX2_add_32 : decode cX2_add 32 = .ok (.iastore, 1) := by decide +kernel
theorem dX2_add_33 : decode cX2_add 33 = .ok (.aload_n 0, 1) := by decide +kernel
theorem dX2_add_34 : decode cX2_add 34 = .ok (.getfield 24, 3) := by decide +kernel
theorem dX2_add_37 : decode cX2_add 37 = .ok (.iload_n 3, 1) := by decide +kernel
theorem dX2_add_38 : decode cX2_add 38 = .ok (.iconst 0, 1) := by decide +kernel
theorem dX2_add_39 : decode cX2_add 39 = .ok (.iastore, 1) := by decide +kernel
theorem dX2_add_40 : decode cX2_add 40 = .ok (.aload_n 0, 1) := by decide +kernel
theorem dX2_add_41 : decode cX2_add 41 = .ok (.getfield 27, 3) := by decide +kernel
theorem dX2_add_44 : decode cX2_add 44 = .ok (.iload_n 3, 1) := by decide +kernel
theorem dX2_add_45 : decode cX2_add 45 = .ok (.iconst 0, 1) := by decide +kernel
theorem dX2_add_46 : decode cX2_add 46 = .ok (.iastore, 1) := by decide +kernel
theorem dX2_add_47 : decode cX2_add 47 = .ok (.aload_n 0, 1) := by decide +kernel
theorem dX2_add_48 : decode cX2_add 48 = .ok (.getfield 30, 3) := by decide +kernel
theorem dX2_add_51 : decode cX2_add 51 = .ok (.iload_n 3, 1) := by decide +kernel
theorem dX2_add_52 : decode cX2_add 52 = .ok (.iconst 0, 1) := by decide +kernel
theorem dX2_add_53 : decode cX2_add 53 = .ok (.iastore, 1) := by decide +kernel
theorem dX2_add_54 : decode cX2_add 54 = .ok (.aload_n 0, 1) := by decide +kernel
theorem dX2_add_55 : decode cX2_add 55 = .ok (.getfield 33, 3) := by decide +kernel
theorem dX2_add_58 : decode cX2_add 58 = .ok (.iload_n 3, 1) := by decide +kernel
theorem dX2_add_59 : decode cX2_add 59 = .ok (.iconst 0, 1) := by decide +kernel
theorem dX2_add_60 : decode cX2_add 60 = .ok (.iastore, 1) := by decide +kernel
theorem dX2_add_61 : decode cX2_add 61 = .ok (.aload_n 0, 1) := by decide +kernel
theorem dX2_add_62 : decode cX2_add 62 = .ok (.dup, 1) := by decide +kernel
theorem dX2_add_63 : decode cX2_add 63 = .ok (.getfield 42, 3) := by decide +kernel
theorem dX2_add_66 : decode cX2_add 66 = .ok (.iconst 1, 1) := by decide +kernel
theorem dX2_add_67 : decode cX2_add 67 = .ok (.iadd, 1) := by decide +kernel
theorem dX2_add_68 : decode cX2_add 68 = .ok (.putfield 42, 3) := by decide +kernel
theorem dX2_add_71 : decode cX2_add 71 = .ok (.iload_n 3, 1) := by decide +kernel
theorem dX2_add_72 : decode cX2_add 72 = .ok (.ireturn, 1) := by decide +kernel
theorem dX2_copy_0 : decode cX2_copy 0 = .ok (.aload_n 0, 1) := by decide +kernel
theorem dX2_copy_1 : decode cX2_copy 1 = .ok (.aload_n 1, 1) := by decide +kernel
theorem dX2_copy_2 : decode cX2_copy 2 = .ok (.getfield 42, 3) := by decide +kernel
theorem dX2_copy_5 : decode cX2_copy 5 = .ok (.putfield 42, 3) := by decide +kernel
theorem dX2_copy_8 : decode cX2_copy 8 = .ok (.aload_n 1, 1) := by decide +kernel
theorem dX2_copy_9 : decode cX2_copy 9 = .ok (.getfield 9, 3) := by decide +kernel
theorem dX2_copy_12 : decode cX2_copy 12 = .ok (.iconst 0, 1) := by decide +kernel
theorem dX2_copy_13 : decode cX2_copy 13 = .ok (.aload_n 0, 1) := by decide +kernel
theorem dX2_copy_14 : decode cX2_copy 14 = .ok (.getfield 9, 3) := by decide +kernel
theorem dX2_copy_17 : decode cX2_copy 17 = .ok (.iconst 0, 1) := by decide +kernel
theorem dX2_copy_18 : decode cX2_copy 18 = .ok (.bipush 10, 2) := by decide +kernel
theorem dX2_copy_20 : decode cX2_copy 20 = .ok (.invokestatic 46, 3) := by decide +kernel
theorem dX2_copy_23 : decode cX2_copy 23 = .ok (.aload_n 1, 1) := by decide +kernel
theorem dX2_copy_24 : decode cX2_copy 24 = .ok (.getfield 15, 3) := by decide +kernel
theorem dX2_copy_27 : decode cX2_copy 27 = .ok (.iconst 0, 1) := by decide +kernel
theorem dX2_copy_28 : decode cX2_copy 28 = .ok (.aload_n 0, 1) := by decide +kernel
theorem dX2_copy_29 : decode cX2_copy 29 = .ok (.getfield 15, 3) := by decide +kernel
theorem dX2_copy_32 : decode cX2_copy 32 = .ok (.iconst 0, 1) := by decide +kernel
theorem dX2_copy_33 : decode cX2_copy 33 = .ok (.bipush 10, 2) := by decide +kernel
theorem dX2_copy_35 : decode cX2_copy 35 = .ok (.invokestatic 46, 3) := by decide +kernel
theorem dX2_copy_38 : decode cX2_copy 38 = .ok (.aload_n 1, 1) := by decide +kernel
theorem dX2_copy_39 : decode cX2_copy 39 = .ok (.getfield 18, 3) := by decide +kernel
theorem dX2_copy_42 : decode cX2_copy 42 = .ok (.iconst 0, 1) := by decide +kernel
theorem dX2_copy_43 : decode cX2_copy 43 = .ok (.aload_n 0, 1) := by decide +kernel
theorem dX2_copy_44 : decode cX2_copy 44 = .ok (.getfield 18, 3) := by decide +kernel
theorem dX2_copy_47 : decode cX2_copy 47 = .ok (.iconst 0, 1) := by decide +kernel
theorem dX2_copy_48 : decode cX2_copy 48 = .ok (.bipush 10, 2) := by decide +kernel
theorem dX2_copy_50 : decode cX2_copy 50 = .ok (.invokestatic 46, 3) := by decide +kernel
theorem dX2_copy_53 : decode cX2_copy 53 = .ok (.aload_n 1, 1) := by decide +kernel
theorem dX2_copy_54 : decode cX2_copy 54 = .ok (.getfield 21, 3) := by decide +kernel
theorem dX2_copy_57 : decode cX2_copy 57 = .ok (.iconst 0, 1) := by decide +kernel
theorem dX2_copy_58 : decode cX2_copy 58 = .ok (.aload_n 0, 1) := by decide +kernel
theorem dX2_copy_59 : decode cX2_copy 59 = .ok (.getfield 21, 3) := by decide +kernel
theorem dX2_copy_62 : decode cX2_copy 62 = .ok (.iconst 0, 1) := by decide +kernel
theorem dX2_copy_63 : decode cX2_copy 63 = .ok (.bipush 10, 2) := by decide +kernel
theorem dX2_copy_65 : decode cX2_copy 65 = .ok (.invokestatic 46, 3) := by decide +kernel
theorem dX2_copy_68 : decode cX2_copy 68 = .ok (.aload_n 1, 1) := by decide +kernel
theorem dX2_copy_69 : decode cX2_copy 69 = .ok (.getfield 24, 3) := by decide +kernel
theorem dX2_copy_72 : decode cX2_copy 72 = .ok (.iconst 0, 1) := by decide +kernel
theorem dX2_copy_73 : decode cX2_copy 73 = .ok (.aload_n 0, 1) := by decide +kernel
theorem dX2_copy_74 : decode cX2_copy 74 = .ok (.getfield 24, 3) := by decide +kernel
theorem dX2_copy_77 : decode cX2_copy 77 = .ok (.iconst 0, 1) := by decide +kernel
theorem dX2_copy_78 : decode cX2_copy 78 = .ok (.bipush 10, 2) := by decide +kernel
theorem dX2_copy_80 : decode cX2_copy 80 = .ok (.invokestatic 46, 3) := by decide +kernel
theorem dX2_copy_83 : decode cX2_copy 83 = .ok (.aload_n 1, 1) := by decide +kernel
theorem dX2_copy_84 : decode cX2_copy 84 = .ok (.getfield 27, 3) := by decide +kernel
theorem dX2_copy_87 : decode cX2_copy 87 = .ok (.iconst 0, 1) := by decide +kernel
theorem dX2_copy_88 : decode cX2_copy 88 = .ok (.aload_n 0, 1) := by decide +kernel
theorem dX2_copy_89 : decode cX2_copy 89 = .ok (.getfield 27, 3) := by decide +kernel
theorem dX2_copy_92 : decode cX2_copy 92 = .ok (.iconst 0, 1) := by decide +kernel
theorem dX2_copy_93 : decode cX2_copy 93 = .ok (.bipush 10, 2) := by decide +kernel
theorem dX2_copy_95 : decode cX2_copy 95 = .ok (.invokestatic 46, 3) := by decide +kernel
theorem dX2_copy_98 : decode cX2_copy 98 = .ok (.aload_n 1, 1) := by decide +kernel
theorem dX2_copy_99 : decode cX2_copy 99 = .ok (.getfield 30, 3) := by decide +kernel
theorem dX2_copy_102 : decode cX2_copy 102 = .ok (.iconst 0, 1) := by decide +kernel
theorem dX2_copy_103 : decode cX2_copy 103 = .ok (.aload_n 0, 1) := by decide +kernel
theorem dX2_copy_104 : decode cX2_copy 104 = .ok (.getfield 30, 3) := by decide +kernel
theorem dX2_copy_107 : decode cX2_copy 107 = .ok (.iconst 0, 1) := by decide +kernel
theorem dX2_copy_108 : decode cX2_copy 108 = .ok (.bipush 10, 2) := by decide +kernel
theorem dX2_copy_110 : decode cX2_copy 110 = .ok (.invokestatic 46, 3) := by decide +kernel
theorem dX2_copy_113 : decode cX2_copy 113 = .ok (.aload_n 1, 1) := by decide +kernel
theorem dX2_copy_114 : decode cX2_copy 114 = .ok (.getfield 33, 3) := by decide +kernel
theorem dX2_copy_117 : decode cX2_copy 117 = .ok (.iconst 0, 1) := by decide +kernel
theorem dX2_copy_118 : decode cX2_copy 118 = .ok (.aload_n 0, 1) := by decide +kernel
theorem dX2_copy_119 : decode cX2_copy 119 = .ok (.getfield 33, 3) := by decide +kernel
theorem dX2_copy_122 : decode cX2_copy 122 = .ok (.iconst 0, 1) := by decide +kernel
theorem dX2_copy_123 : decode cX2_copy 123 = .ok (.bipush 10, 2) := by decide +kernel
theorem dX2_copy_125 : decode cX2_copy 125 = .ok (.invokestatic 46, 3) := by decide +kernel
theorem dX2_copy_128 : decode cX2_copy 128 = .ok (.return_, 1) := by decide +kernel
theorem dX2_told_0 : decode cX2_told 0 = .ok (.iload_n 2, 1) := by decide +kernel
theorem dX2_told_1 : decode cX2_told 1 = .ok (.tableswitch 96 0 7 #[47, 54, 61, 68, 75, 96, 82, 89], 47) := by decide +kernel
theorem dX2_told_48 : decode cX2_told 48 = .ok (.aload_n 0, 1) := by decide +kernel
theorem dX2_told_49 : decode cX2_told 49 = .ok (.getfield 9, 3) := by decide +kernel
theorem dX2_told_52 : decode cX2_told 52 = .ok (.iload_n 1, 1) := by decide +kernel
theorem dX2_told_53 : decode cX2_told 53 = .ok (.iaload, 1) := by decide +kernel
theorem dX2_told_54 : decode cX2_told 54 = .ok (.ireturn, 1) := by decide +kernel
theorem dX2_told_55 : decode cX2_told 55 = .ok (.aload_n 0, 1) := by decide +kernel
theorem dX2_told_56 : decode cX2_told 56 = .ok (.getfield 15, 3) := by decide +kernel
theorem dX2_told_59 : decode cX2_told 59 = .ok (.iload_n 1, 1) := by decide +kernel
theorem dX2_told_60 : decode cX2_told 60 = .ok (.iaload, 1) := by decide +kernel
theorem dX2_told_61 : decode cX2_told 61 = .ok (.ireturn, 1) := by decide +kernel
theorem dX2_told_62 : decode cX2_told 62 = .ok (.aload_n 0, 1) := by decide +kernel
theorem dX2_told_63 : decode cX2_told 63 = .ok (.getfield 18, 3) := by decide +kernel
theorem dX2_told_66 : decode cX2_told 66 = .ok (.iload_n 1, 1) := by decide +kernel
theorem dX2_told_67 : decode cX2_told 67 = .ok (.iaload, 1) := by decide +kernel
theorem dX2_told_68 : decode cX2_told 68 = .ok (.ireturn, 1) := by decide +kernel
theorem dX2_told_69 : decode cX2_told 69 = .ok (.aload_n 0, 1) := by decide +kernel
theorem dX2_told_70 : decode cX2_told 70 = .ok (.getfield 21, 3) := by decide +kernel
theorem dX2_told_73 : decode cX2_told 73 = .ok (.iload_n 1, 1) := by decide +kernel
theorem dX2_told_74 : decode cX2_told 74 = .ok (.iaload, 1) := by decide +kernel
theorem dX2_told_75 : decode cX2_told 75 = .ok (.ireturn, 1) := by decide +kernel
theorem dX2_told_76 : decode cX2_told 76 = .ok (.aload_n 0, 1) := by decide +kernel
theorem dX2_told_77 : decode cX2_told 77 = .ok (.getfield 24, 3) := by decide +kernel
theorem dX2_told_80 : decode cX2_told 80 = .ok (.iload_n 1, 1) := by decide +kernel
theorem dX2_told_81 : decode cX2_told 81 = .ok (.iaload, 1) := by decide +kernel
theorem dX2_told_82 : decode cX2_told 82 = .ok (.ireturn, 1) := by decide +kernel
theorem dX2_told_83 : decode cX2_told 83 = .ok (.aload_n 0, 1) := by decide +kernel
theorem dX2_told_84 : decode cX2_told 84 = .ok (.getfield 27, 3) := by decide +kernel
theorem dX2_told_87 : decode cX2_told 87 = .ok (.iload_n 1, 1) := by decide +kernel
theorem dX2_told_88 : decode cX2_told 88 = .ok (.iaload, 1) := by decide +kernel
theorem dX2_told_89 : decode cX2_told 89 = .ok (.ireturn, 1) := by decide +kernel
theorem dX2_told_90 : decode cX2_told 90 = .ok (.aload_n 0, 1) := by decide +kernel
theorem dX2_told_91 : decode cX2_told 91 = .ok (.getfield 30, 3) := by decide +kernel
theorem dX2_told_94 : decode cX2_told 94 = .ok (.iload_n 1, 1) := by decide +kernel
theorem dX2_told_95 : decode cX2_told 95 = .ok (.iaload, 1) := by decide +kernel
theorem dX2_told_96 : decode cX2_told 96 = .ok (.ireturn, 1) := by decide +kernel
theorem dX2_told_97 : decode cX2_told 97 = .ok (.aload_n 0, 1) := by decide +kernel
theorem dX2_told_98 : decode cX2_told 98 = .ok (.getfield 33, 3) := by decide +kernel
theorem dX2_told_101 : decode cX2_told 101 = .ok (.iload_n 1, 1) := by decide +kernel
theorem dX2_told_102 : decode cX2_told 102 = .ok (.iaload, 1) := by decide +kernel
theorem dX2_told_103 : decode cX2_told 103 = .ok (.ireturn, 1) := by decide +kernel
theorem dX2_change_0 : decode cX2_change 0 = .ok (.iload_n 2, 1) := by decide +kernel
theorem dX2_change_1 : decode cX2_change 1 = .ok (.tableswitch 57 0 2 #[27, 37, 47], 27) := by decide +kernel
theorem dX2_change_28 : decode cX2_change 28 = .ok (.aload_n 0, 1) := by decide +kernel
theorem dX2_change_29 : decode cX2_change 29 = .ok (.getfield 9, 3) := by decide +kernel
theorem dX2_change_32 : decode cX2_change 32 = .ok (.iload_n 1, 1) := by decide +kernel
theorem dX2_change_33 : decode cX2_change 33 = .ok (.iload_n 3, 1) := by decide +kernel
theorem dX2_change_34 : decode cX2_change 34 = .ok (.iastore, 1) := by decide +kernel
theorem dX2_change_35 : decode cX2_change 35 = .ok (.goto 30, 3) := by decide +kernel
theorem dX2_change_38 : decode cX2_change 38 = .ok (.aload_n 0, 1) := by decide +kernel
theorem dX2_change_39 : decode cX2_change 39 = .ok (.getfield 15, 3) := by decide +kernel
theorem dX2_change_42 : decode cX2_change 42 = .ok (.iload_n 1, 1) := by decide +kernel
theorem dX2_change_43 : decode cX2_change 43 = .ok (.iload_n 3, 1) := by decide +kernel
theorem dX2_change_44 : decode cX2_change 44 = .ok (.iastore, 1) := by decide +kernel
theorem dX2_change_45 : decode cX2_change 45 = .ok (.goto 20, 3) := by decide +kernel
theorem dX2_change_48 : decode cX2_change 48 = .ok (.aload_n 0, 1) := by decide +kernel
theorem dX2_change_49 : decode cX2_change 49 = .ok (.getfield 18, 3) := by decide +kernel
theorem dX2_change_52 : decode cX2_change 52 = .ok (.iload_n 1, 1) := by decide +kernel
theorem dX2_change_53 : decode cX2_change 53 = .ok (.iload_n 3, 1) := by decide +kernel
theorem dX2_change_54 : decode cX2_change 54 = .ok (.iastore, 1) := by decide +kernel
theorem dX2_change_55 : decode cX2_change 55 = .ok (.goto 10, 3) := by decide +kernel
theorem dX2_change_58 : decode cX2_change 58 = .ok (.aload_n 0, 1) := by decide +kernel
theorem dX2_change_59 : decode cX2_change 59 = .ok (.getfield 21, 3) := by decide +kernel
theorem dX2_change_62 : decode cX2_change 62 = .ok (.iload_n 1, 1) := by decide +kernel
theorem dX2_change_63 : decode cX2_change 63 = .ok (.iload_n 3, 1) := by decide +kernel
theorem dX2_change_64 : decode cX2_change 64 = .ok (.iastore, 1) := by decide +kernel
theorem dX2_change_65 : decode cX2_change 65 = .ok (.return_, 1) := by decide +kernel
theorem dX2_canDraw_0 : decode cX2_canDraw 0 = .ok (.aload_n 0, 1) := by decide +kernel
theorem dX2_canDraw_1 : decode cX2_canDraw 1 = .ok (.getfield 21, 3) := by decide +kernel
theorem dX2_canDraw_4 : decode cX2_canDraw 4 = .ok (.iload_n 1, 1) := by decide +kernel
theorem dX2_canDraw_5 : decode cX2_canDraw 5 = .ok (.iaload, 1) := by decide +kernel
theorem dX2_canDraw_6 : decode cX2_canDraw 6 = .ok (.ifCond .ne 5, 3) := by decide +kernel
theorem dX2_canDraw_9 : decode cX2_canDraw 9 = .ok (.iconst 0, 1) := by decide +kernel
theorem dX2_canDraw_10 : decode cX2_canDraw 10 = .ok (.ireturn, 1) := by decide +kernel
theorem dX2_canDraw_11 : decode cX2_canDraw 11 = .ok (.iconst 0, 1) := by decide +kernel
theorem dX2_canDraw_12 : decode cX2_canDraw 12 = .ok (.aload_n 0, 1) := by decide +kernel
theorem dX2_canDraw_13 : decode cX2_canDraw 13 = .ok (.getfield 15, 3) := by decide +kernel
theorem dX2_canDraw_16 : decode cX2_canDraw 16 = .ok (.iload_n 1, 1) := by decide +kernel
theorem dX2_canDraw_17 : decode cX2_canDraw 17 = .ok (.iaload, 1) := by decide +kernel
theorem dX2_canDraw_18 : decode cX2_canDraw 18 = .ok (.aload_n 0, 1) := by decide +kernel
theorem dX2_canDraw_19 : decode cX2_canDraw 19 = .ok (.getfield 24, 3) := by decide +kernel
theorem dX2_canDraw_22 : decode cX2_canDraw 22 = .ok (.iload_n 1, 1) := by decide +kernel
theorem dX2_canDraw_23 : decode cX2_canDraw 23 = .ok (.iaload, 1) := by decide +kernel
theorem dX2_canDraw_24 : decode cX2_canDraw 24 = .ok (.iload_n 2, 1) := by decide +kernel
theorem dX2_canDraw_25 : decode cX2_canDraw 25 = .ok (.iadd, 1) := by decide +kernel
theorem dX2_canDraw_26 : decode cX2_canDraw 26 = .ok (.invokestatic 52, 3) := by decide +kernel
theorem dX2_canDraw_29 : decode cX2_canDraw 29 = .ok (.invokestatic 58, 3) := by decide +kernel
theorem dX2_canDraw_32 : decode cX2_canDraw 32 = .ok (.ireturn, 1) := by decide +kernel
theorem dX2_wantAll_0 : decode cX2_wantAll 0 = .ok (.iconst 0, 1) := by decide +kernel
theorem dX2_wantAll_1 : decode cX2_wantAll 1 = .ok (.istore_n 2, 1) := by decide +kernel
theorem dX2_wantAll_2 : decode cX2_wantAll 2 = .ok (.iload_n 2, 1) := by decide +kernel
theorem dX2_wantAll_3 : decode cX2_wantAll 3 = .ok (.aload_n 0, 1) := by decide +kernel
theorem dX2_wantAll_4 : decode cX2_wantAll 4 = .ok (.getfield 42, 3) := by decide +kernel
theorem dX2_wantAll_7 : decode cX2_wantAll 7 = .ok (.if_icmp .ge 33, 3) := by decide +kernel
theorem dX2_wantAll_10 : decode cX2_wantAll 10 = .ok (.aload_n 0, 1) := by decide +kernel
theorem dX2_wantAll_11 : decode cX2_wantAll 11 = .ok (.getfield 36, 3) := by decide +kernel
theorem dX2_wantAll_14 : decode cX2_wantAll 14 = .ok (.iload_n 2, 1) := by decide +kernel
theorem dX2_wantAll_15 : decode cX2_wantAll 15 = .ok (.aload_n 0, 1) := by decide +kernel
theorem dX2_wantAll_16 : decode cX2_wantAll 16 = .ok (.iload_n 2, 1) := by decide +kernel
theorem dX2_wantAll_17 : decode cX2_wantAll 17 = .ok (.iload_n 1, 1) := by decide +kernel
theorem dX2_wantAll_18 : decode cX2_wantAll 18 = .ok (.invokevirtual 61, 3) := by decide +kernel
theorem dX2_wantAll_21 : decode cX2_wantAll 21 = .ok (.iastore, 1) := by decide +kernel
theorem dX2_wantAll_22 : decode cX2_wantAll 22 = .ok (.aload_n 0, 1) := by decide +kernel
theorem dX2_wantAll_23 : decode cX2_wantAll 23 = .ok (.getfield 39, 3) := by decide +kernel
theorem dX2_wantAll_26 : decode cX2_wantAll 26 = .ok (.iload_n 2, 1) := by decide +kernel
theorem dX2_wantAll_27 : decode cX2_wantAll 27 = .ok (.aload_n 0, 1) := by decide +kernel
theorem dX2_wantAll_28 : decode cX2_wantAll 28 = .ok (.getfield 36, 3) := by decide +kernel
theorem dX2_wantAll_31 : decode cX2_wantAll 31 = .ok (.iload_n 2, 1) := by decide +kernel
theorem dX2_wantAll_32 : decode cX2_wantAll 32 = .ok (.iaload, 1) := by decide +kernel
theorem dX2_wantAll_33 : decode cX2_wantAll 33 = .ok (.iastore, 1) := by decide +kernel
theorem dX2_wantAll_34 : decode cX2_wantAll 34 = .ok (.iinc 2 1, 3) := by decide +kernel
theorem dX2_wantAll_37 : decode cX2_wantAll 37 = .ok (.goto (-35), 3) := by decide +kernel
theorem dX2_wantAll_40 : decode cX2_wantAll 40 = .ok (.return_, 1) := by decide +kernel
theorem dX2_sum_0 : decode cX2_sum 0 = .ok (.iconst 0, 1) := by decide +kernel
theorem dX2_sum_1 : decode cX2_sum 1 = .ok (.istore_n 2, 1) := by decide +kernel
theorem dX2_sum_2 : decode cX2_sum 2 = .ok (.iconst 0, 1) := by decide +kernel
theorem dX2_sum_3 : decode cX2_sum 3 = .ok (.istore_n 3, 1) := by decide +kernel
theorem dX2_sum_4 : decode cX2_sum 4 = .ok (.iload_n 3, 1) := by decide +kernel
theorem dX2_sum_5 : decode cX2_sum 5 = .ok (.aload_n 0, 1) := by decide +kernel
theorem dX2_sum_6 : decode cX2_sum 6 = .ok (.getfield 42, 3) := by decide +kernel
theorem dX2_sum_9 : decode cX2_sum 9 = .ok (.if_icmp .ge 15, 3) := by decide +kernel
theorem dX2_sum_12 : decode cX2_sum 12 = .ok (.iload_n 2, 1) := by decide +kernel
theorem dX2_sum_13 : decode cX2_sum 13 = .ok (.aload_n 1, 1) := by decide +kernel
theorem dX2_sum_14 : decode cX2_sum 14 = .ok (.iload_n 3, 1) := by decide +kernel
theorem dX2_sum_15 : decode cX2_sum 15 = .ok (.iaload, 1) := by decide +kernel
theorem dX2_sum_16 : decode cX2_sum 16 = .ok (.iadd, 1) := by decide +kernel
theorem dX2_sum_17 : decode cX2_sum 17 = .ok (.istore_n 2, 1) := by decide +kernel
theorem dX2_sum_18 : decode cX2_sum 18 = .ok (.iinc 3 1, 3) := by decide +kernel
theorem dX2_sum_21 : decode cX2_sum 21 = .ok (.goto (-17), 3) := by decide +kernel
theorem dX2_sum_24 : decode cX2_sum 24 = .ok (.iload_n 2, 1) := by decide +kernel
theorem dX2_sum_25 : decode cX2_sum 25 = .ok (.ireturn, 1) := by decide +kernel
theorem dX2_sumFrom_0 : decode cX2_sumFrom 0 = .ok (.iconst 0, 1) := by decide +kernel
theorem dX2_sumFrom_1 : decode cX2_sumFrom 1 = .ok (.istore_n 3, 1) := by decide +kernel
theorem dX2_sumFrom_2 : decode cX2_sumFrom 2 = .ok (.iconst 0, 1) := by decide +kernel
theorem dX2_sumFrom_3 : decode cX2_sumFrom 3 = .ok (.istore 4, 2) := by decide +kernel
theorem dX2_sumFrom_5 : decode cX2_sumFrom 5 = .ok (.iload 4, 2) := by decide +kernel
theorem dX2_sumFrom_7 : decode cX2_sumFrom 7 = .ok (.aload_n 0, 1) := by decide +kernel
theorem dX2_sumFrom_8 : decode cX2_sumFrom 8 = .ok (.getfield 42, 3) := by decide +kernel
theorem dX2_sumFrom_11 : decode cX2_sumFrom 11 = .ok (.if_icmp .ge 31, 3) := by decide +kernel
theorem dX2_sumFrom_14 : decode cX2_sumFrom 14 = .ok (.iload_n 3, 1) := by decide +kernel
theorem dX2_sumFrom_15 : decode cX2_sumFrom 15 = .ok (.aload_n 0, 1) := by decide +kernel
theorem dX2_sumFrom_16 : decode cX2_sumFrom 16 = .ok (.getfield 9, 3) := by decide +kernel
theorem dX2_sumFrom_19 : decode cX2_sumFrom 19 = .ok (.iload 4, 2) := by decide +kernel
theorem dX2_sumFrom_21 : decode cX2_sumFrom 21 = .ok (.iaload, 1) := by decide +kernel
theorem dX2_sumFrom_22 : decode cX2_sumFrom 22 = .ok (.iload_n 1, 1) := by decide +kernel
theorem dX2_sumFrom_23 : decode cX2_sumFrom 23 = .ok (.if_icmp .ne 10, 3) := by decide +kernel
theorem dX2_sumFrom_26 : decode cX2_sumFrom 26 = .ok (.aload_n 2, 1) := by decide +kernel
theorem dX2_sumFrom_27 : decode cX2_sumFrom 27 = .ok (.iload 4, 2) := by decide +kernel
theorem dX2_sumFrom_29 : decode cX2_sumFrom 29 = .ok (.iaload, 1) := by decide +kernel
theorem dX2_sumFrom_30 : decode cX2_sumFrom 30 = .ok (.goto 4, 3) := by decide +kernel
theorem dX2_sumFrom_33 : decode cX2_sumFrom 33 = .ok (.iconst 0, 1) := by decide +kernel
theorem dX2_sumFrom_34 : decode cX2_sumFrom 34 = .ok (.iadd, 1) := by decide +kernel
theorem dX2_sumFrom_35 : decode cX2_sumFrom 35 = .ok (.istore_n 3, 1) := by decide +kernel
theorem dX2_sumFrom_36 : decode cX2_sumFrom 36 = .ok (.iinc 4 1, 3) := by decide +kernel
theorem dX2_sumFrom_39 : decode cX2_sumFrom 39 = .ok (.goto (-34), 3) := by decide +kernel
theorem dX2_sumFrom_42 : decode cX2_sumFrom 42 = .ok (.iload_n 3, 1) := by decide +kernel
theorem dX2_sumFrom_43 : decode cX2_sumFrom 43 = .ok (.ireturn, 1) := by decide +kernel
theorem dX2_wantNothing_0 : decode cX2_wantNothing 0 = .ok (.iconst 0, 1) := by decide +kernel
theorem dX2_wantNothing_1 : decode cX2_wantNothing 1 = .ok (.istore_n 2, 1) := by decide +kernel
theorem dX2_wantNothing_2 : decode cX2_wantNothing 2 = .ok (.iload_n 2, 1) := by decide +kernel
theorem dX2_wantNothing_3 : decode cX2_wantNothing 3 = .ok (.aload_n 0, 1) := by decide +kernel
theorem dX2_wantNothing_4 : decode cX2_wantNothing 4 = .ok (.getfield 42, 3) := by decide +kernel
theorem dX2_wantNothing_7 : decode cX2_wantNothing 7 = .ok (.if_icmp .ge 26, 3) := by decide +kernel
theorem dX2_wantNothing_10 : decode cX2_wantNothing 10 = .ok (.aload_n 0, 1) := by decide +kernel
theorem dX2_wantNothing_11 : decode cX2_wantNothing 11 = .ok (.getfield 9, 3) := by decide +kernel
theorem dX2_wantNothing_14 : decode cX2_wantNothing 14 = .ok (.iload_n 2, 1) := by decide +kernel
theorem dX2_wantNothing_15 : decode cX2_wantNothing 15 = .ok (.iaload, 1) := by decide +kernel
theorem dX2_wantNothing_16 : decode cX2_wantNothing 16 = .ok (.iload_n 1, 1) := by decide +kernel
theorem dX2_wantNothing_17 : decode cX2_wantNothing 17 = .ok (.if_icmp .ne 10, 3) := by decide +kernel
theorem dX2_wantNothing_20 : decode cX2_wantNothing 20 = .ok (.aload_n 0, 1) := by decide +kernel
theorem dX2_wantNothing_21 : decode cX2_wantNothing 21 = .ok (.getfield 39, 3) := by decide +kernel
theorem dX2_wantNothing_24 : decode cX2_wantNothing 24 = .ok (.iload_n 2, 1) := by decide +kernel
theorem dX2_wantNothing_25 : decode cX2_wantNothing 25 = .ok (.iconst 0, 1) := by decide +kernel
theorem dX2_wantNothing_26 : decode cX2_wantNothing 26 = .ok (.iastore, 1) := by decide +kernel
theorem dX2_wantNothing_27 : decode cX2_wantNothing 27 = .ok (.iinc 2 1, 3) := by decide +kernel
theorem dX2_wantNothing_30 : decode cX2_wantNothing 30 = .ok (.goto (-28), 3) := by decide +kernel
theorem dX2_wantNothing_33 : decode cX2_wantNothing 33 = .ok (.return_, 1) := by decide +kernel
theorem dX2_receive_0 : decode cX2_receive 0 = .ok (.aload_n 0, 1) := by decide +kernel
theorem dX2_receive_1 : decode cX2_receive 1 = .ok (.getfield 27, 3) := by decide +kernel
theorem dX2_receive_4 : decode cX2_receive 4 = .ok (.iload_n 1, 1) := by decide +kernel
theorem dX2_receive_5 : decode cX2_receive 5 = .ok (.iload_n 2, 1) := by decide +kernel
theorem dX2_receive_6 : decode cX2_receive 6 = .ok (.iastore, 1) := by decide +kernel
theorem dX2_receive_7 : decode cX2_receive 7 = .ok (.aload_n 0, 1) := by decide +kernel
theorem dX2_receive_8 : decode cX2_receive 8 = .ok (.getfield 33, 3) := by decide +kernel
theorem dX2_receive_11 : decode cX2_receive 11 = .ok (.iload_n 1, 1) := by decide +kernel
theorem dX2_receive_12 : decode cX2_receive 12 = .ok (.dup2, 1) := by decide +kernel
theorem dX2_receive_13 : decode cX2_receive 13 = .ok (.iaload, 1) := by decide +kernel
theorem dX2_receive_14 : decode cX2_receive 14 = .ok (.iload_n 2, 1) := by decide +kernel
theorem dX2_receive_15 : decode cX2_receive 15 = .ok (.iadd, 1) := by decide +kernel
theorem dX2_receive_16 : decode cX2_receive 16 = .ok (.iastore, 1) := by decide +kernel
theorem dX2_receive_17 : decode cX2_receive 17 = .ok (.aload_n 0, 1) := by decide +kernel
theorem dX2_receive_18 : decode cX2_receive 18 = .ok (.getfield 24, 3) := by decide +kernel
theorem dX2_receive_21 : decode cX2_receive 21 = .ok (.iload_n 1, 1) := by decide +kernel
theorem dX2_receive_22 : decode cX2_receive 22 = .ok (.dup2, 1) := by decide +kernel
theorem dX2_receive_23 : decode cX2_receive 23 = .ok (.iaload, 1) := by decide +kernel
theorem dX2_receive_24 : decode cX2_receive 24 = .ok (.iload_n 2, 1) := by decide +kernel
theorem dX2_receive_25 : decode cX2_receive 25 = .ok (.isub, 1) := by decide +kernel
theorem dX2_receive_26 : decode cX2_receive 26 = .ok (.iastore, 1) := by decide +kernel
theorem dX2_receive_27 : decode cX2_receive 27 = .ok (.aload_n 0, 1) := by decide +kernel
theorem dX2_receive_28 : decode cX2_receive 28 = .ok (.getfield 30, 3) := by decide +kernel
theorem dX2_receive_31 : decode cX2_receive 31 = .ok (.iload_n 1, 1) := by decide +kernel
theorem dX2_receive_32 : decode cX2_receive 32 = .ok (.aload_n 0, 1) := by decide +kernel
theorem dX2_receive_33 : decode cX2_receive 33 = .ok (.iload_n 1, 1) := by decide +kernel
theorem dX2_receive_34 : decode cX2_receive 34 = .ok (.iload_n 3, 1) := by decide +kernel
theorem dX2_receive_35 : decode cX2_receive 35 = .ok (.invokevirtual 64, 3) := by decide +kernel
theorem dX2_receive_38 : decode cX2_receive 38 = .ok (.iastore, 1) := by decide +kernel
theorem dX2_receive_39 : decode cX2_receive 39 = .ok (.return_, 1) := by decide +kernel
theorem dX2_reasonOf_0 : decode cX2_reasonOf 0 = .ok (.aload_n 0, 1) := by decide +kernel
theorem dX2_reasonOf_1 : decode cX2_reasonOf 1 = .ok (.getfield 27, 3) := by decide +kernel
theorem dX2_reasonOf_4 : decode cX2_reasonOf 4 = .ok (.iload_n 1, 1) := by decide +kernel
theorem dX2_reasonOf_5 : decode cX2_reasonOf 5 = .ok (.iaload, 1) := by decide +kernel
theorem dX2_reasonOf_6 : decode cX2_reasonOf 6 = .ok (.aload_n 0, 1) := by decide +kernel
theorem dX2_reasonOf_7 : decode cX2_reasonOf 7 = .ok (.getfield 15, 3) := by decide +kernel
theorem dX2_reasonOf_10 : decode cX2_reasonOf 10 = .ok (.iload_n 1, 1) := by decide +kernel
theorem dX2_reasonOf_11 : decode cX2_reasonOf 11 = .ok (.iaload, 1) := by decide +kernel
theorem dX2_reasonOf_12 : decode cX2_reasonOf 12 = .ok (.if_icmp .ne 5, 3) := by decide +kernel
theorem dX2_reasonOf_15 : decode cX2_reasonOf 15 = .ok (.iconst 0, 1) := by decide +kernel
theorem dX2_reasonOf_16 : decode cX2_reasonOf 16 = .ok (.ireturn, 1) := by decide +kernel
theorem dX2_reasonOf_17 : decode cX2_reasonOf 17 = .ok (.aload_n 0, 1) := by decide +kernel
theorem dX2_reasonOf_18 : decode cX2_reasonOf 18 = .ok (.getfield 21, 3) := by decide +kernel
theorem dX2_reasonOf_21 : decode cX2_reasonOf 21 = .ok (.iload_n 1, 1) := by decide +kernel
theorem dX2_reasonOf_22 : decode cX2_reasonOf 22 = .ok (.iaload, 1) := by decide +kernel
theorem dX2_reasonOf_23 : decode cX2_reasonOf 23 = .ok (.ifCond .ne 5, 3) := by decide +kernel
theorem dX2_reasonOf_26 : decode cX2_reasonOf 26 = .ok (.iconst 1, 1) := by decide +kernel
theorem dX2_reasonOf_27 : decode cX2_reasonOf 27 = .ok (.ireturn, 1) := by decide +kernel
theorem dX2_reasonOf_28 : decode cX2_reasonOf 28 = .ok (.aload_n 0, 1) := by decide +kernel
theorem dX2_reasonOf_29 : decode cX2_reasonOf 29 = .ok (.getfield 36, 3) := by decide +kernel
theorem dX2_reasonOf_32 : decode cX2_reasonOf 32 = .ok (.iload_n 1, 1) := by decide +kernel
theorem dX2_reasonOf_33 : decode cX2_reasonOf 33 = .ok (.iaload, 1) := by decide +kernel
theorem dX2_reasonOf_34 : decode cX2_reasonOf 34 = .ok (.aload_n 0, 1) := by decide +kernel
theorem dX2_reasonOf_35 : decode cX2_reasonOf 35 = .ok (.getfield 15, 3) := by decide +kernel
theorem dX2_reasonOf_38 : decode cX2_reasonOf 38 = .ok (.iload_n 1, 1) := by decide +kernel
theorem dX2_reasonOf_39 : decode cX2_reasonOf 39 = .ok (.iaload, 1) := by decide +kernel
theorem dX2_reasonOf_40 : decode cX2_reasonOf 40 = .ok (.if_icmp .ge 5, 3) := by decide +kernel
theorem dX2_reasonOf_43 : decode cX2_reasonOf 43 = .ok (.iconst 2, 1) := by decide +kernel
theorem dX2_reasonOf_44 : decode cX2_reasonOf 44 = .ok (.ireturn, 1) := by decide +kernel
theorem dX2_reasonOf_45 : decode cX2_reasonOf 45 = .ok (.iload_n 2, 1) := by decide +kernel
theorem dX2_reasonOf_46 : decode cX2_reasonOf 46 = .ok (.ifCond .eq 7, 3) := by decide +kernel
theorem dX2_reasonOf_49 : decode cX2_reasonOf 49 = .ok (.iconst 3, 1) := by decide +kernel
theorem dX2_reasonOf_50 : decode cX2_reasonOf 50 = .ok (.goto 4, 3) := by decide +kernel
theorem dX2_reasonOf_53 : decode cX2_reasonOf 53 = .ok (.iconst 4, 1) := by decide +kernel
theorem dX2_reasonOf_54 : decode cX2_reasonOf 54 = .ok (.ireturn, 1) := by decide +kernel
theorem dX2_overdrawn_0 : decode cX2_overdrawn 0 = .ok (.iconst 0, 1) := by decide +kernel
theorem dX2_overdrawn_1 : decode cX2_overdrawn 1 = .ok (.istore_n 1, 1) := by decide +kernel
theorem dX2_overdrawn_2 : decode cX2_overdrawn 2 = .ok (.iconst 0, 1) := by decide +kernel
theorem dX2_overdrawn_3 : decode cX2_overdrawn 3 = .ok (.istore_n 2, 1) := by decide +kernel
theorem dX2_overdrawn_4 : decode cX2_overdrawn 4 = .ok (.iload_n 2, 1) := by decide +kernel
theorem dX2_overdrawn_5 : decode cX2_overdrawn 5 = .ok (.aload_n 0, 1) := by decide +kernel
theorem dX2_overdrawn_6 : decode cX2_overdrawn 6 = .ok (.getfield 42, 3) := by decide +kernel
theorem dX2_overdrawn_9 : decode cX2_overdrawn 9 = .ok (.if_icmp .ge 26, 3) := by decide +kernel
theorem dX2_overdrawn_12 : decode cX2_overdrawn 12 = .ok (.iload_n 1, 1) := by decide +kernel
theorem dX2_overdrawn_13 : decode cX2_overdrawn 13 = .ok (.aload_n 0, 1) := by decide +kernel
theorem dX2_overdrawn_14 : decode cX2_overdrawn 14 = .ok (.getfield 24, 3) := by decide +kernel
theorem dX2_overdrawn_17 : decode cX2_overdrawn 17 = .ok (.iload_n 2, 1) := by decide +kernel
theorem dX2_overdrawn_18 : decode cX2_overdrawn 18 = .ok (.iaload, 1) := by decide +kernel
theorem dX2_overdrawn_19 : decode cX2_overdrawn 19 = .ok (.ifCond .ge 7, 3) := by decide +kernel
theorem dX2_overdrawn_22 : decode cX2_overdrawn 22 = .ok (.iconst 1, 1) := by decide +kernel
theorem dX2_overdrawn_23 : decode cX2_overdrawn 23 = .ok (.goto 4, 3) := by decide +kernel
theorem dX2_overdrawn_26 : decode cX2_overdrawn 26 = .ok (.iconst 0, 1) := by decide +kernel
theorem dX2_overdrawn_27 : decode cX2_overdrawn 27 = .ok (.iadd, 1) := by decide +kernel
theorem dX2_overdrawn_28 : decode cX2_overdrawn 28 = .ok (.istore_n 1, 1) := by decide +kernel
theorem dX2_overdrawn_29 : decode cX2_overdrawn 29 = .ok (.iinc 2 1, 3) := by decide +kernel
theorem dX2_overdrawn_32 : decode cX2_overdrawn 32 = .ok (.goto (-28), 3) := by decide +kernel
theorem dX2_overdrawn_35 : decode cX2_overdrawn 35 = .ok (.iload_n 1, 1) := by decide +kernel
theorem dX2_overdrawn_36 : decode cX2_overdrawn 36 = .ok (.ireturn, 1) := by decide +kernel
theorem dX2_sizeOf_0 : decode cX2_sizeOf 0 = .ok (.iconst 0, 1) := by decide +kernel
theorem dX2_sizeOf_1 : decode cX2_sizeOf 1 = .ok (.istore_n 2, 1) := by decide +kernel
theorem dX2_sizeOf_2 : decode cX2_sizeOf 2 = .ok (.iconst 0, 1) := by decide +kernel
theorem dX2_sizeOf_3 : decode cX2_sizeOf 3 = .ok (.istore_n 3, 1) := by decide +kernel
theorem dX2_sizeOf_4 : decode cX2_sizeOf 4 = .ok (.iload_n 3, 1) := by decide +kernel
theorem dX2_sizeOf_5 : decode cX2_sizeOf 5 = .ok (.aload_n 0, 1) := by decide +kernel
theorem dX2_sizeOf_6 : decode cX2_sizeOf 6 = .ok (.getfield 42, 3) := by decide +kernel
theorem dX2_sizeOf_9 : decode cX2_sizeOf 9 = .ok (.if_icmp .ge 27, 3) := by decide +kernel
theorem dX2_sizeOf_12 : decode cX2_sizeOf 12 = .ok (.iload_n 2, 1) := by decide +kernel
theorem dX2_sizeOf_13 : decode cX2_sizeOf 13 = .ok (.aload_n 0, 1) := by decide +kernel
theorem dX2_sizeOf_14 : decode cX2_sizeOf 14 = .ok (.getfield 9, 3) := by decide +kernel
theorem dX2_sizeOf_17 : decode cX2_sizeOf 17 = .ok (.iload_n 3, 1) := by decide +kernel
theorem dX2_sizeOf_18 : decode cX2_sizeOf 18 = .ok (.iaload, 1) := by decide +kernel
theorem dX2_sizeOf_19 : decode cX2_sizeOf 19 = .ok (.iload_n 1, 1) := by decide +kernel
theorem dX2_sizeOf_20 : decode cX2_sizeOf 20 = .ok (.if_icmp .ne 7, 3) := by decide +kernel
theorem dX2_sizeOf_23 : decode cX2_sizeOf 23 = .ok (.iconst 1, 1) := by decide +kernel
theorem dX2_sizeOf_24 : decode cX2_sizeOf 24 = .ok (.goto 4, 3) := by decide +kernel
theorem dX2_sizeOf_27 : decode cX2_sizeOf 27 = .ok (.iconst 0, 1) := by decide +kernel
theorem dX2_sizeOf_28 : decode cX2_sizeOf 28 = .ok (.iadd, 1) := by decide +kernel
theorem dX2_sizeOf_29 : decode cX2_sizeOf 29 = .ok (.istore_n 2, 1) := by decide +kernel
theorem dX2_sizeOf_30 : decode cX2_sizeOf 30 = .ok (.iinc 3 1, 3) := by decide +kernel
theorem dX2_sizeOf_33 : decode cX2_sizeOf 33 = .ok (.goto (-29), 3) := by decide +kernel
theorem dX2_sizeOf_36 : decode cX2_sizeOf 36 = .ok (.iload_n 2, 1) := by decide +kernel
theorem dX2_sizeOf_37 : decode cX2_sizeOf 37 = .ok (.ireturn, 1) := by decide +kernel
theorem dX2_drawnFrom_0 : decode cX2_drawnFrom 0 = .ok (.iconst 0, 1) := by decide +kernel
theorem dX2_drawnFrom_1 : decode cX2_drawnFrom 1 = .ok (.istore_n 3, 1) := by decide +kernel
theorem dX2_drawnFrom_2 : decode cX2_drawnFrom 2 = .ok (.iconst 0, 1) := by decide +kernel
theorem dX2_drawnFrom_3 : decode cX2_drawnFrom 3 = .ok (.istore 4, 2) := by decide +kernel
theorem dX2_drawnFrom_5 : decode cX2_drawnFrom 5 = .ok (.iload 4, 2) := by decide +kernel
theorem dX2_drawnFrom_7 : decode cX2_drawnFrom 7 = .ok (.aload_n 0, 1) := by decide +kernel
theorem dX2_drawnFrom_8 : decode cX2_drawnFrom 8 = .ok (.getfield 42, 3) := by decide +kernel
theorem dX2_drawnFrom_11 : decode cX2_drawnFrom 11 = .ok (.if_icmp .ge 34, 3) := by decide +kernel
theorem dX2_drawnFrom_14 : decode cX2_drawnFrom 14 = .ok (.iload_n 3, 1) := by decide +kernel
theorem dX2_drawnFrom_15 : decode cX2_drawnFrom 15 = .ok (.aload_n 0, 1) := by decide +kernel
theorem dX2_drawnFrom_16 : decode cX2_drawnFrom 16 = .ok (.getfield 9, 3) := by decide +kernel
theorem dX2_drawnFrom_19 : decode cX2_drawnFrom 19 = .ok (.iload 4, 2) := by decide +kernel
theorem dX2_drawnFrom_21 : decode cX2_drawnFrom 21 = .ok (.iaload, 1) := by decide +kernel
theorem dX2_drawnFrom_22 : decode cX2_drawnFrom 22 = .ok (.iload_n 1, 1) := by decide +kernel
theorem dX2_drawnFrom_23 : decode cX2_drawnFrom 23 = .ok (.if_icmp .ne 13, 3) := by decide +kernel
theorem dX2_drawnFrom_26 : decode cX2_drawnFrom 26 = .ok (.aload_n 0, 1) := by decide +kernel
theorem dX2_drawnFrom_27 : decode cX2_drawnFrom 27 = .ok (.iload 4, 2) := by decide +kernel
theorem dX2_drawnFrom_29 : decode cX2_drawnFrom 29 = .ok (.iload_n 2, 1) := by decide +kernel
theorem dX2_drawnFrom_30 : decode cX2_drawnFrom 30 = .ok (.invokevirtual 61, 3) := by decide +kernel
theorem dX2_drawnFrom_33 : decode cX2_drawnFrom 33 = .ok (.goto 4, 3) := by decide +kernel
theorem dX2_drawnFrom_36 : decode cX2_drawnFrom 36 = .ok (.iconst 0, 1) := by decide +kernel
theorem dX2_drawnFrom_37 : decode cX2_drawnFrom 37 = .ok (.iadd, 1) := by decide +kernel
theorem dX2_drawnFrom_38 : decode cX2_drawnFrom 38 = .ok (.istore_n 3, 1) := by decide +kernel
theorem dX2_drawnFrom_39 : decode cX2_drawnFrom 39 = .ok (.iinc 4 1, 3) := by decide +kernel
theorem dX2_drawnFrom_42 : decode cX2_drawnFrom 42 = .ok (.goto (-37), 3) := by decide +kernel
theorem dX2_drawnFrom_45 : decode cX2_drawnFrom 45 = .ok (.iload_n 3, 1) := by decide +kernel
theorem dX2_drawnFrom_46 : decode cX2_drawnFrom 46 = .ok (.ireturn, 1) := by decide +kernel
theorem dX3_init_0 : decode cX3_init 0 = .ok (.aload_n 0, 1) := by decide +kernel
theorem dX3_init_1 : decode cX3_init 1 = .ok (.invokespecial 3, 3) := by decide +kernel
theorem dX3_init_4 : decode cX3_init 4 = .ok (.aload_n 0, 1) := by decide +kernel
theorem dX3_init_5 : decode cX3_init 5 = .ok (.bipush 60, 2) := by decide +kernel
theorem dX3_init_7 : decode cX3_init 7 = .ok (.newarray .int, 2) := by decide +kernel
theorem dX3_init_9 : decode cX3_init 9 = .ok (.putfield 9, 3) := by decide +kernel
theorem dX3_init_12 : decode cX3_init 12 = .ok (.aload_n 0, 1) := by decide +kernel
theorem dX3_init_13 : decode cX3_init 13 = .ok (.bipush 48, 2) := by decide +kernel
theorem dX3_init_15 : decode cX3_init 15 = .ok (.newarray .int, 2) := by decide +kernel
theorem dX3_init_17 : decode cX3_init 17 = .ok (.putfield 15, 3) := by decide +kernel
theorem dX3_init_20 : decode cX3_init 20 = .ok (.return_, 1) := by decide +kernel
theorem dX4_init_0 : decode cX4_init 0 = .ok (.aload_n 0, 1) := by decide +kernel
theorem dX4_init_1 : decode cX4_init 1 = .ok (.invokespecial 3, 3) := by decide +kernel
theorem dX4_init_4 : decode cX4_init 4 = .ok (.aload_n 0, 1) := by decide +kernel
theorem dX4_init_5 : decode cX4_init 5 = .ok (.bipush 12, 2) := by decide +kernel
theorem dX4_init_7 : decode cX4_init 7 = .ok (.newarray .int, 2) := by decide +kernel
theorem dX4_init_9 : decode cX4_init 9 = .ok (.putfield 9, 3) := by decide +kernel
theorem dX4_init_12 : decode cX4_init 12 = .ok (.aload_n 0, 1) := by decide +kernel
theorem dX4_init_13 : decode cX4_init 13 = .ok (.bipush 12, 2) := by decide +kernel
theorem dX4_init_15 : decode cX4_init 15 = .ok (.newarray .int, 2) := by decide +kernel
theorem dX4_init_17 : decode cX4_init 17 = .ok (.putfield 15, 3) := by decide +kernel
theorem dX4_init_20 : decode cX4_init 20 = .ok (.aload_n 0, 1) := by decide +kernel
theorem dX4_init_21 : decode cX4_init 21 = .ok (.bipush 12, 2) := by decide +kernel
theorem dX4_init_23 : decode cX4_init 23 = .ok (.newarray .int, 2) := by decide +kernel
theorem dX4_init_25 : decode cX4_init 25 = .ok (.putfield 18, 3) := by decide +kernel
theorem dX4_init_28 : decode cX4_init 28 = .ok (.return_, 1) := by decide +kernel
theorem dX4_add_0 : decode cX4_add 0 = .ok (.aload_n 0, 1) := by decide +kernel
theorem dX4_add_1 : decode cX4_add 1 = .ok (.getfield 9, 3) := by decide +kernel
theorem dX4_add_4 : decode cX4_add 4 = .ok (.aload_n 0, 1) := by decide +kernel
theorem dX4_add_5 : decode cX4_add 5 = .ok (.getfield 21, 3) := by decide +kernel
theorem dX4_add_8 : decode cX4_add 8 = .ok (.iload_n 1, 1) := by decide +kernel
theorem dX4_add_9 : decode cX4_add 9 = .ok (.iastore, 1) := by decide +kernel
theorem dX4_add_10 : decode cX4_add 10 = .ok (.aload_n 0, 1) := by decide +kernel
theorem dX4_add_11 : decode cX4_add 11 = .ok (.getfield 15, 3) := by decide +kernel
theorem dX4_add_14 : decode cX4_add 14 = .ok (.aload_n 0, 1) := by decide +kernel
theorem dX4_add_15 : decode cX4_add 15 = .ok (.getfield 21, 3) := by decide +kernel
theorem dX4_add_18 : decode cX4_add 18 = .ok (.iload_n 2, 1) := by decide +kernel
theorem dX4_add_19 : decode cX4_add 19 = .ok (.iastore, 1) := by decide +kernel
theorem dX4_add_20 : decode cX4_add 20 = .ok (.aload_n 0, 1) := by decide +kernel
theorem dX4_add_21 : decode cX4_add 21 = .ok (.getfield 18, 3) := by decide +kernel
theorem dX4_add_24 : decode cX4_add 24 = .ok (.aload_n 0, 1) := by decide +kernel
theorem dX4_add_25 : decode cX4_add 25 = .ok (.getfield 21, 3) := by decide +kernel
theorem dX4_add_28 : decode cX4_add 28 = .ok (.iload_n 3, 1) := by decide +kernel
theorem dX4_add_29 : decode cX4_add 29 = .ok (.iastore, 1) := by decide +kernel
theorem dX4_add_30 : decode cX4_add 30 = .ok (.aload_n 0, 1) := by decide +kernel
theorem dX4_add_31 : decode cX4_add 31 = .ok (.dup, 1) := by decide +kernel
theorem dX4_add_32 : decode cX4_add 32 = .ok (.getfield 21, 3) := by decide +kernel
theorem dX4_add_35 : decode cX4_add 35 = .ok (.iconst 1, 1) := by decide +kernel
theorem dX4_add_36 : decode cX4_add 36 = .ok (.iadd, 1) := by decide +kernel
theorem dX4_add_37 : decode cX4_add 37 = .ok (.putfield 21, 3) := by decide +kernel
theorem dX4_add_40 : decode cX4_add 40 = .ok (.return_, 1) := by decide +kernel
theorem dX4_remove_0 : decode cX4_remove 0 = .ok (.aload_n 0, 1) := by decide +kernel
theorem dX4_remove_1 : decode cX4_remove 1 = .ok (.dup, 1) := by decide +kernel
theorem dX4_remove_2 : decode cX4_remove 2 = .ok (.getfield 21, 3) := by decide +kernel
theorem dX4_remove_5 : decode cX4_remove 5 = .ok (.iconst 1, 1) := by decide +kernel
theorem dX4_remove_6 : decode cX4_remove 6 = .ok (.isub, 1) := by decide +kernel
theorem dX4_remove_7 : decode cX4_remove 7 = .ok (.putfield 21, 3) := by decide +kernel
theorem dX4_remove_10 : decode cX4_remove 10 = .ok (.iload_n 1, 1) := by decide +kernel
theorem dX4_remove_11 : decode cX4_remove 11 = .ok (.istore_n 2, 1) := by decide +kernel
theorem dX4_remove_12 : decode cX4_remove 12 = .ok (.iload_n 2, 1) := by decide +kernel
theorem dX4_remove_13 : decode cX4_remove 13 = .ok (.aload_n 0, 1) := by decide +kernel
theorem dX4_remove_14 : decode cX4_remove 14 = .ok (.getfield 21, 3) := by decide +kernel
theorem dX4_remove_17 : decode cX4_remove 17 = .ok (.if_icmp .ge 51, 3) := by decide +kernel
theorem dX4_remove_20 : decode cX4_remove 20 = .ok (.aload_n 0, 1) := by decide +kernel
theorem dX4_remove_21 : decode cX4_remove 21 = .ok (.getfield 9, 3) := by decide +kernel
theorem dX4_remove_24 : decode cX4_remove 24 = .ok (.iload_n 2, 1) := by decide +kernel
theorem dX4_remove_25 : decode cX4_remove 25 = .ok (.aload_n 0, 1) := by decide +kernel
theorem dX4_remove_26 : decode cX4_remove 26 = .ok (.getfield 9, 3) := by decide +kernel
theorem dX4_remove_29 : decode cX4_remove 29 = .ok (.iload_n 2, 1) := by decide +kernel
theorem dX4_remove_30 : decode cX4_remove 30 = .ok (.iconst 1, 1) := by decide +kernel
theorem dX4_remove_31 : decode cX4_remove 31 = .ok (.iadd, 1) := by decide +kernel
theorem dX4_remove_32 : decode cX4_remove 32 = .ok (.iaload, 1) := by decide +kernel
theorem dX4_remove_33 : decode cX4_remove 33 = .ok (.iastore, 1) := by decide +kernel
theorem dX4_remove_34 : decode cX4_remove 34 = .ok (.aload_n 0, 1) := by decide +kernel
theorem dX4_remove_35 : decode cX4_remove 35 = .ok (.getfield 15, 3) := by decide +kernel
theorem dX4_remove_38 : decode cX4_remove 38 = .ok (.iload_n 2, 1) := by decide +kernel
theorem dX4_remove_39 : decode cX4_remove 39 = .ok (.aload_n 0, 1) := by decide +kernel
theorem dX4_remove_40 : decode cX4_remove 40 = .ok (.getfield 15, 3) := by decide +kernel
theorem dX4_remove_43 : decode cX4_remove 43 = .ok (.iload_n 2, 1) := by decide +kernel
theorem dX4_remove_44 : decode cX4_remove 44 = .ok (.iconst 1, 1) := by decide +kernel
theorem dX4_remove_45 : decode cX4_remove 45 = .ok (.iadd, 1) := by decide +kernel
theorem dX4_remove_46 : decode cX4_remove 46 = .ok (.iaload, 1) := by decide +kernel
theorem dX4_remove_47 : decode cX4_remove 47 = .ok (.iastore, 1) := by decide +kernel
theorem dX4_remove_48 : decode cX4_remove 48 = .ok (.aload_n 0, 1) := by decide +kernel
theorem dX4_remove_49 : decode cX4_remove 49 = .ok (.getfield 18, 3) := by decide +kernel
theorem dX4_remove_52 : decode cX4_remove 52 = .ok (.iload_n 2, 1) := by decide +kernel
theorem dX4_remove_53 : decode cX4_remove 53 = .ok (.aload_n 0, 1) := by decide +kernel
theorem dX4_remove_54 : decode cX4_remove 54 = .ok (.getfield 18, 3) := by decide +kernel
theorem dX4_remove_57 : decode cX4_remove 57 = .ok (.iload_n 2, 1) := by decide +kernel
theorem dX4_remove_58 : decode cX4_remove 58 = .ok (.iconst 1, 1) := by decide +kernel
theorem dX4_remove_59 : decode cX4_remove 59 = .ok (.iadd, 1) := by decide +kernel
theorem dX4_remove_60 : decode cX4_remove 60 = .ok (.iaload, 1) := by decide +kernel
theorem dX4_remove_61 : decode cX4_remove 61 = .ok (.iastore, 1) := by decide +kernel
theorem dX4_remove_62 : decode cX4_remove 62 = .ok (.iinc 2 1, 3) := by decide +kernel
theorem dX4_remove_65 : decode cX4_remove 65 = .ok (.goto (-53), 3) := by decide +kernel
theorem dX4_remove_68 : decode cX4_remove 68 = .ok (.return_, 1) := by decide +kernel
theorem dX4_copy_0 : decode cX4_copy 0 = .ok (.aload_n 0, 1) := by decide +kernel
theorem dX4_copy_1 : decode cX4_copy 1 = .ok (.aload_n 1, 1) := by decide +kernel
theorem dX4_copy_2 : decode cX4_copy 2 = .ok (.getfield 21, 3) := by decide +kernel
theorem dX4_copy_5 : decode cX4_copy 5 = .ok (.putfield 21, 3) := by decide +kernel
theorem dX4_copy_8 : decode cX4_copy 8 = .ok (.aload_n 1, 1) := by decide +kernel
theorem dX4_copy_9 : decode cX4_copy 9 = .ok (.getfield 9, 3) := by decide +kernel
theorem dX4_copy_12 : decode cX4_copy 12 = .ok (.iconst 0, 1) := by decide +kernel
theorem dX4_copy_13 : decode cX4_copy 13 = .ok (.aload_n 0, 1) := by decide +kernel
theorem dX4_copy_14 : decode cX4_copy 14 = .ok (.getfield 9, 3) := by decide +kernel
theorem dX4_copy_17 : decode cX4_copy 17 = .ok (.iconst 0, 1) := by decide +kernel
theorem dX4_copy_18 : decode cX4_copy 18 = .ok (.bipush 12, 2) := by decide +kernel
theorem dX4_copy_20 : decode cX4_copy 20 = .ok (.invokestatic 25, 3) := by decide +kernel
theorem dX4_copy_23 : decode cX4_copy 23 = .ok (.aload_n 1, 1) := by decide +kernel
theorem dX4_copy_24 : decode cX4_copy 24 = .ok (.getfield 15, 3) := by decide +kernel
theorem dX4_copy_27 : decode cX4_copy 27 = .ok (.iconst 0, 1) := by decide +kernel
theorem dX4_copy_28 : decode cX4_copy 28 = .ok (.aload_n 0, 1) := by decide +kernel
theorem dX4_copy_29 : decode cX4_copy 29 = .ok (.getfield 15, 3) := by decide +kernel
theorem dX4_copy_32 : decode cX4_copy 32 = .ok (.iconst 0, 1) := by decide +kernel
theorem dX4_copy_33 : decode cX4_copy 33 = .ok (.bipush 12, 2) := by decide +kernel
theorem dX4_copy_35 : decode cX4_copy 35 = .ok (.invokestatic 25, 3) := by decide +kernel
theorem dX4_copy_38 : decode cX4_copy 38 = .ok (.aload_n 1, 1) := by decide +kernel
theorem dX4_copy_39 : decode cX4_copy 39 = .ok (.getfield 18, 3) := by decide +kernel
theorem dX4_copy_42 : decode cX4_copy 42 = .ok (.iconst 0, 1) := by decide +kernel
theorem dX4_copy_43 : decode cX4_copy 43 = .ok (.aload_n 0, 1) := by decide +kernel
theorem dX4_copy_44 : decode cX4_copy 44 = .ok (.getfield 18, 3) := by decide +kernel
theorem dX4_copy_47 : decode cX4_copy 47 = .ok (.iconst 0, 1) := by decide +kernel
theorem dX4_copy_48 : decode cX4_copy 48 = .ok (.bipush 12, 2) := by decide +kernel
theorem dX4_copy_50 : decode cX4_copy 50 = .ok (.invokestatic 25, 3) := by decide +kernel
theorem dX4_copy_53 : decode cX4_copy 53 = .ok (.return_, 1) := by decide +kernel
theorem dX4_told_0 : decode cX4_told 0 = .ok (.iload_n 2, 1) := by decide +kernel
theorem dX4_told_1 : decode cX4_told 1 = .ok (.lookupswitch 41 #[(0, 27), (1, 34)], 27) := by decide +kernel
theorem dX4_told_28 : decode cX4_told 28 = .ok (.aload_n 0, 1) := by decide +kernel
theorem dX4_told_29 : decode cX4_told 29 = .ok (.getfield 9, 3) := by decide +kernel
theorem dX4_told_32 : decode cX4_told 32 = .ok (.iload_n 1, 1) := by decide +kernel
theorem dX4_told_33 : decode cX4_told 33 = .ok (.iaload, 1) := by decide +kernel
theorem dX4_told_34 : decode cX4_told 34 = .ok (.ireturn, 1) := by decide +kernel
theorem dX4_told_35 : decode cX4_told 35 = .ok (.aload_n 0, 1) := by decide +kernel
theorem dX4_told_36 : decode cX4_told 36 = .ok (.getfield 15, 3) := by decide +kernel
theorem dX4_told_39 : decode cX4_told 39 = .ok (.iload_n 1, 1) := by decide +kernel
theorem dX4_told_40 : decode cX4_told 40 = .ok (.iaload, 1) := by decide +kernel
theorem dX4_told_41 : decode cX4_told 41 = .ok (.ireturn, 1) := by decide +kernel
theorem dX4_told_42 : decode cX4_told 42 = .ok (.aload_n 0, 1) := by decide +kernel
theorem dX4_told_43 : decode cX4_told 43 = .ok (.getfield 18, 3) := by decide +kernel
theorem dX4_told_46 : decode cX4_told 46 = .ok (.iload_n 1, 1) := by decide +kernel
theorem dX4_told_47 : decode cX4_told 47 = .ok (.iaload, 1) := by decide +kernel
theorem dX4_told_48 : decode cX4_told 48 = .ok (.ireturn, 1) := by decide +kernel
theorem dX4_owedBy_0 : decode cX4_owedBy 0 = .ok (.aload_n 0, 1) := by decide +kernel
theorem dX4_owedBy_1 : decode cX4_owedBy 1 = .ok (.aload_n 0, 1) := by decide +kernel
theorem dX4_owedBy_2 : decode cX4_owedBy 2 = .ok (.getfield 15, 3) := by decide +kernel
theorem dX4_owedBy_5 : decode cX4_owedBy 5 = .ok (.iload_n 1, 1) := by decide +kernel
theorem dX4_owedBy_6 : decode cX4_owedBy 6 = .ok (.invokevirtual 31, 3) := by decide +kernel
theorem dX4_owedBy_9 : decode cX4_owedBy 9 = .ok (.ireturn, 1) := by decide +kernel
theorem dX4_owedTo_0 : decode cX4_owedTo 0 = .ok (.aload_n 0, 1) := by decide +kernel
theorem dX4_owedTo_1 : decode cX4_owedTo 1 = .ok (.aload_n 0, 1) := by decide +kernel
theorem dX4_owedTo_2 : decode cX4_owedTo 2 = .ok (.getfield 9, 3) := by decide +kernel
theorem dX4_owedTo_5 : decode cX4_owedTo 5 = .ok (.iload_n 1, 1) := by decide +kernel
theorem dX4_owedTo_6 : decode cX4_owedTo 6 = .ok (.invokevirtual 31, 3) := by decide +kernel
theorem dX4_owedTo_9 : decode cX4_owedTo 9 = .ok (.ireturn, 1) := by decide +kernel
theorem dX4_sumOwed_0 : decode cX4_sumOwed 0 = .ok (.iconst 0, 1) := by decide +kernel
theorem dX4_sumOwed_1 : decode cX4_sumOwed 1 = .ok (.istore_n 3, 1) := by decide +kernel
theorem dX4_sumOwed_2 : decode cX4_sumOwed 2 = .ok (.iconst 0, 1) := by decide +kernel
theorem dX4_sumOwed_3 : decode cX4_sumOwed 3 = .ok (.istore 4, 2) := by decide +kernel
theorem dX4_sumOwed_5 : decode cX4_sumOwed 5 = .ok (.iload 4, 2) := by decide +kernel
theorem dX4_sumOwed_7 : decode cX4_sumOwed 7 = .ok (.aload_n 0, 1) := by decide +kernel
theorem dX4_sumOwed_8 : decode cX4_sumOwed 8 = .ok (.getfield 21, 3) := by decide +kernel
theorem dX4_sumOwed_11 : decode cX4_sumOwed 11 = .ok (.if_icmp .ge 31, 3) := by decide +kernel
theorem dX4_sumOwed_14 : decode cX4_sumOwed 14 = .ok (.iload_n 3, 1) := by decide +kernel
theorem dX4_sumOwed_15 : decode cX4_sumOwed 15 = .ok (.aload_n 1, 1) := by decide +kernel
theorem dX4_sumOwed_16 : decode cX4_sumOwed 16 = .ok (.iload 4, 2) := by decide +kernel
theorem dX4_sumOwed_18 : decode cX4_sumOwed 18 = .ok (.iaload, 1) := by decide +kernel
theorem dX4_sumOwed_19 : decode cX4_sumOwed 19 = .ok (.iload_n 2, 1) := by decide +kernel
theorem dX4_sumOwed_20 : decode cX4_sumOwed 20 = .ok (.if_icmp .ne 13, 3) := by decide +kernel
theorem dX4_sumOwed_23 : decode cX4_sumOwed 23 = .ok (.aload_n 0, 1) := by decide +kernel
theorem dX4_sumOwed_24 : decode cX4_sumOwed 24 = .ok (.getfield 18, 3) := by decide +kernel
theorem dX4_sumOwed_27 : decode cX4_sumOwed 27 = .ok (.iload 4, 2) := by decide +kernel
theorem dX4_sumOwed_29 : decode cX4_sumOwed 29 = .ok (.iaload, 1) := by decide +kernel
theorem dX4_sumOwed_30 : decode cX4_sumOwed 30 = .ok (.goto 4, 3) := by decide +kernel
theorem dX4_sumOwed_33 : decode cX4_sumOwed 33 = .ok (.iconst 0, 1) := by decide +kernel
theorem dX4_sumOwed_34 : decode cX4_sumOwed 34 = .ok (.iadd, 1) := by decide +kernel
theorem dX4_sumOwed_35 : decode cX4_sumOwed 35 = .ok (.istore_n 3, 1) := by decide +kernel
theorem dX4_sumOwed_36 : decode cX4_sumOwed 36 = .ok (.iinc 4 1, 3) := by decide +kernel
theorem dX4_sumOwed_39 : decode cX4_sumOwed 39 = .ok (.goto (-34), 3) := by decide +kernel
theorem dX4_sumOwed_42 : decode cX4_sumOwed 42 = .ok (.iload_n 3, 1) := by decide +kernel
theorem dX4_sumOwed_43 : decode cX4_sumOwed 43 = .ok (.ireturn, 1) := by decide +kernel
theorem dX4_removePaid_0 : decode cX4_removePaid 0 = .ok (.aload_n 0, 1) := by decide +kernel
theorem dX4_removePaid_1 : decode cX4_removePaid 1 = .ok (.getfield 21, 3) := by decide +kernel
theorem dX4_removePaid_4 : decode cX4_removePaid 4 = .ok (.iconst 1, 1) := by decide +kernel
theorem dX4_removePaid_5 : decode cX4_removePaid 5 = .ok (.isub, 1) := by decide +kernel
theorem dX4_removePaid_6 : decode cX4_removePaid 6 = .ok (.istore_n 1, 1) := by decide +kernel
theorem dX4_removePaid_7 : decode cX4_removePaid 7 = .ok (.iload_n 1, 1) := by decide +kernel
theorem dX4_removePaid_8 : decode cX4_removePaid 8 = .ok (.ifCond .lt 23, 3) := by decide +kernel
theorem dX4_removePaid_11 : decode cX4_removePaid 11 = .ok (.aload_n 0, 1) := by decide +kernel
theorem dX4_removePaid_12 : decode cX4_removePaid 12 = .ok (.getfield 18, 3) := by decide +kernel
theorem dX4_removePaid_15 : decode cX4_removePaid 15 = .ok (.iload_n 1, 1) := by decide +kernel
theorem dX4_removePaid_16 : decode cX4_removePaid 16 = .ok (.iaload, 1) := by decide +kernel
theorem dX4_removePaid_17 : decode cX4_removePaid 17 = .ok (.ifCond .gt 8, 3) := by decide +kernel
theorem dX4_removePaid_20 : decode cX4_removePaid 20 = .ok (.aload_n 0, 1) := by decide +kernel
theorem dX4_removePaid_21 : decode cX4_removePaid 21 = .ok (.iload_n 1, 1) := by decide +kernel
theorem dX4_removePaid_22 : decode cX4_removePaid 22 = .ok (.invokevirtual 35, 3) := by decide +kernel
theorem dX4_removePaid_25 : decode cX4_removePaid 25 = .ok (.iinc 1 (-1), 3) := by decide +kernel
theorem dX4_removePaid_28 : decode cX4_removePaid 28 = .ok (.goto (-21), 3) := by decide +kernel
theorem dX4_removePaid_31 : decode cX4_removePaid 31 = .ok (.return_, 1) := by decide +kernel
theorem dJ9_floorMod_7cf53_0 : decode cJ9_floorMod_7cf53 0 = .ok (.iload_n 0, 1) := by decide +kernel
theorem dJ9_floorMod_7cf53_1 : decode cJ9_floorMod_7cf53 1 = .ok (.iload_n 1, 1) := by decide +kernel
theorem dJ9_floorMod_7cf53_2 : decode cJ9_floorMod_7cf53 2 = .ok (.irem, 1) := by decide +kernel
theorem dJ9_floorMod_7cf53_3 : decode cJ9_floorMod_7cf53 3 = .ok (.istore_n 2, 1) := by decide +kernel
theorem dJ9_floorMod_7cf53_4 : decode cJ9_floorMod_7cf53 4 = .ok (.iload_n 0, 1) := by decide +kernel
theorem dJ9_floorMod_7cf53_5 : decode cJ9_floorMod_7cf53 5 = .ok (.iload_n 1, 1) := by decide +kernel
theorem dJ9_floorMod_7cf53_6 : decode cJ9_floorMod_7cf53 6 = .ok (.ixor, 1) := by decide +kernel
theorem dJ9_floorMod_7cf53_7 : decode cJ9_floorMod_7cf53 7 = .ok (.ifCond .ge 11, 3) := by decide +kernel
theorem dJ9_floorMod_7cf53_10 : decode cJ9_floorMod_7cf53 10 = .ok (.iload_n 2, 1) := by decide +kernel
theorem dJ9_floorMod_7cf53_11 : decode cJ9_floorMod_7cf53 11 = .ok (.ifCond .eq 7, 3) := by decide +kernel
theorem dJ9_floorMod_7cf53_14 : decode cJ9_floorMod_7cf53 14 = .ok (.iload_n 2, 1) := by decide +kernel
theorem dJ9_floorMod_7cf53_15 : decode cJ9_floorMod_7cf53 15 = .ok (.iload_n 1, 1) := by decide +kernel
theorem dJ9_floorMod_7cf53_16 : decode cJ9_floorMod_7cf53 16 = .ok (.iadd, 1) := by decide +kernel
theorem dJ9_floorMod_7cf53_17 : decode cJ9_floorMod_7cf53 17 = .ok (.ireturn, 1) := by decide +kernel
theorem dJ9_floorMod_7cf53_18 : decode cJ9_floorMod_7cf53 18 = .ok (.iload_n 2, 1) := by decide +kernel
theorem dJ9_floorMod_7cf53_19 : decode cJ9_floorMod_7cf53 19 = .ok (.ireturn, 1) := by decide +kernel
theorem dJ9_max_7cf53_0 : decode cJ9_max_7cf53 0 = .ok (.iload_n 0, 1) := by decide +kernel
theorem dJ9_max_7cf53_1 : decode cJ9_max_7cf53 1 = .ok (.iload_n 1, 1) := by decide +kernel
theorem dJ9_max_7cf53_2 : decode cJ9_max_7cf53 2 = .ok (.if_icmp .lt 7, 3) := by decide +kernel
theorem dJ9_max_7cf53_5 : decode cJ9_max_7cf53 5 = .ok (.iload_n 0, 1) := by decide +kernel
theorem dJ9_max_7cf53_6 : decode cJ9_max_7cf53 6 = .ok (.goto 4, 3) := by decide +kernel
theorem dJ9_max_7cf53_9 : decode cJ9_max_7cf53 9 = .ok (.iload_n 1, 1) := by decide +kernel
theorem dJ9_max_7cf53_10 : decode cJ9_max_7cf53 10 = .ok (.ireturn, 1) := by decide +kernel
theorem dJ9_min_7cf53_0 : decode cJ9_min_7cf53 0 = .ok (.iload_n 0, 1) := by decide +kernel
theorem dJ9_min_7cf53_1 : decode cJ9_min_7cf53 1 = .ok (.iload_n 1, 1) := by decide +kernel
theorem dJ9_min_7cf53_2 : decode cJ9_min_7cf53 2 = .ok (.if_icmp .gt 7, 3) := by decide +kernel
theorem dJ9_min_7cf53_5 : decode cJ9_min_7cf53 5 = .ok (.iload_n 0, 1) := by decide +kernel
theorem dJ9_min_7cf53_6 : decode cJ9_min_7cf53 6 = .ok (.goto 4, 3) := by decide +kernel
theorem dJ9_min_7cf53_9 : decode cJ9_min_7cf53 9 = .ok (.iload_n 1, 1) := by decide +kernel
theorem dJ9_min_7cf53_10 : decode cJ9_min_7cf53 10 = .ok (.ireturn, 1) := by decide +kernel
