theorem dX0_init_0 : decode cX0_init 0 = .ok (.aload_n 0, 1) := by decide +kernel
theorem dX0_init_1 : decode cX0_init 1 = .ok (.invokespecial 3, 3) := by decide +kernel
theorem dX0_init_4 : decode cX0_init 4 = .ok (.aload_n 0, 1) := by decide +kernel
theorem dX0_init_5 : decode cX0_init 5 = .ok (.iconst 2, 1) := by decide +kernel
theorem dX0_init_6 : decode cX0_init 6 = .ok (.newarray .int, 2) := by decide +kernel
theorem dX0_init_8 : decode cX0_init 8 = .ok (.putfield 9, 3) := by decide +kernel
theorem dX0_init_11 : decode cX0_init 11 = .ok (.aload_n 0, 1) := by decide +kernel
theorem dX0_init_12 : decode cX0_init 12 = .ok (.iconst 2, 1) := by decide +kernel
theorem dX0_init_13 : decode cX0_init 13 = .ok (.newarray .int, 2) := by decide +kernel
theorem dX0_init_15 : decode cX0_init 15 = .ok (.putfield 15, 3) := by decide +kernel
theorem dX0_init_18 : decode cX0_init 18 = .ok (.aload_n 0, 1) := by decide +kernel
theorem dX0_init_19 : decode cX0_init 19 = .ok (.iconst 2, 1) := by decide +kernel
theorem dX0_init_20 : decode cX0_init 20 = .ok (.newarray .int, 2) := by decide +kernel
theorem dX0_init_22 : decode cX0_init 22 = .ok (.putfield 18, 3) := by decide +kernel
theorem dX0_init_25 : decode cX0_init 25 = .ok (.aload_n 0, 1) := by decide +kernel
theorem dX0_init_26 : decode cX0_init 26 = .ok (.iconst 2, 1) := by decide +kernel
theorem dX0_init_27 : decode cX0_init 27 = .ok (.newarray .int, 2) := by decide +kernel
theorem dX0_init_29 : decode cX0_init 29 = .ok (.putfield 21, 3) := by decide +kernel
theorem dX0_init_32 : decode cX0_init 32 = .ok (.iconst 0, 1) := by decide +kernel
theorem dX0_init_33 : decode cX0_init 33 = .ok (.istore_n 1, 1) := by decide +kernel
theorem dX0_init_34 : decode cX0_init 34 = .ok (.iload_n 1, 1) := by decide +kernel
theorem dX0_init_35 : decode cX0_init 35 = .ok (.iconst 2, 1) := by decide +kernel
theorem dX0_init_36 : decode cX0_init 36 = .ok (.if_icmp .ge 25, 3) := by decide +kernel
theorem dX0_init_39 : decode cX0_init 39 = .ok (.aload_n 0, 1) := by decide +kernel
theorem dX0_init_40 : decode cX0_init 40 = .ok (.getfield 15, 3) := by decide +kernel
theorem dX0_init_43 : decode cX0_init 43 = .ok (.iload_n 1, 1) := by decide +kernel
theorem dX0_init_44 : decode cX0_init 44 = .ok (.bipush 20, 2) := by decide +kernel
theorem dX0_init_46 : decode cX0_init 46 = .ok (.iastore, 1) := by decide +kernel
theorem dX0_init_47 : decode cX0_init 47 = .ok (.aload_n 0, 1) := by decide +kernel
theorem dX0_init_48 : decode cX0_init 48 = .ok (.getfield 18, 3) := by decide +kernel
theorem dX0_init_51 : decode cX0_init 51 = .ok (.iload_n 1, 1) := by decide +kernel
theorem dX0_init_52 : decode cX0_init 52 = .ok (.bipush 90, 2) := by decide +kernel
theorem dX0_init_54 : decode cX0_init 54 = .ok (.iastore, 1) := by decide +kernel
theorem dX0_init_55 : decode cX0_init 55 = .ok (.iinc 1 1, 3) := by decide +kernel
theorem dX0_init_58 : decode cX0_init 58 = .ok (.goto (-24), 3) := by decide +kernel
theorem dX0_init_61 : decode cX0_init 61 = .ok (.return_, 1) := by decide +kernel
theorem dX0_copy_0 : decode cX0_copy 0 = .ok (.aload_n 1, 1) := by decide +kernel
theorem dX0_copy_1 : decode cX0_copy 1 = .ok (.getfield 9, 3) := by decide +kernel
theorem dX0_copy_4 : decode cX0_copy 4 = .ok (.iconst 0, 1) := by decide +kernel
theorem dX0_copy_5 : decode cX0_copy 5 = .ok (.aload_n 0, 1) := by decide +kernel
theorem dX0_copy_6 : decode cX0_copy 6 = .ok (.getfield 9, 3) := by decide +kernel
theorem dX0_copy_9 : decode cX0_copy 9 = .ok (.iconst 0, 1) := by decide +kernel
theorem dX0_copy_10 : decode cX0_copy 10 = .ok (.iconst 2, 1) := by decide +kernel
theorem dX0_copy_11 : decode cX0_copy 11 = .ok (.invokestatic 24, 3) := by decide +kernel
theorem dX0_copy_14 : decode cX0_copy 14 = .ok (.aload_n 1, 1) := by decide +kernel
theorem dX0_copy_15 : decode cX0_copy 15 = .ok (.getfield 15, 3) := by decide +kernel
theorem dX0_copy_18 : decode cX0_copy 18 = .ok (.iconst 0, 1) := by decide +kernel
theorem dX0_copy_19 : decode cX0_copy 19 = .ok (.aload_n 0, 1) := by decide +kernel
theorem dX0_copy_20 : decode cX0_copy 20 = .ok (.getfield 15, 3) := by decide +kernel
theorem dX0_copy_23 : decode cX0_copy 23 = .ok (.iconst 0, 1) := by decide +kernel
theorem dX0_copy_24 : decode cX0_copy 24 = .ok (.iconst 2, 1) := by decide +kernel
theorem dX0_copy_25 : decode cX0_copy 25 = .ok (.invokestatic 24, 3) := by decide +kernel
theorem dX0_copy_28 : decode cX0_copy 28 = .ok (.aload_n 1, 1) := by decide +kernel
theorem dX0_copy_29 : decode cX0_copy 29 = .ok (.getfield 18, 3) := by decide +kernel
theorem dX0_copy_32 : decode cX0_copy 32 = .ok (.iconst 0, 1) := by decide +kernel
theorem dX0_copy_33 : decode cX0_copy 33 = .ok (.aload_n 0, 1) := by decide +kernel
theorem dX0_copy_34 : decode cX0_copy 34 = .ok (.getfield 18, 3) := by decide +kernel
theorem dX0_copy_37 : decode cX0_copy 37 = .ok (.iconst 0, 1) := by decide +kernel
theorem dX0_copy_38 : decode cX0_copy 38 = .ok (.iconst 2, 1) := by decide +kernel
theorem dX0_copy_39 : decode cX0_copy 39 = .ok (.invokestatic 24, 3) := by decide +kernel
theorem dX0_copy_42 : decode cX0_copy 42 = .ok (.aload_n 1, 1) := by decide +kernel
theorem dX0_copy_43 : decode cX0_copy 43 = .ok (.getfield 21, 3) := by decide +kernel
theorem dX0_copy_46 : decode cX0_copy 46 = .ok (.iconst 0, 1) := by decide +kernel
theorem dX0_copy_47 : decode cX0_copy 47 = .ok (.aload_n 0, 1) := by decide +kernel
theorem dX0_copy_48 : decode cX0_copy 48 = .ok (.getfield 21, 3) := by decide +kernel
theorem dX0_copy_51 : decode cX0_copy 51 = .ok (.iconst 0, 1) := by decide +kernel
theorem dX0_copy_52 : decode cX0_copy 52 = .ok (.iconst 2, 1) := by decide +kernel
theorem dX0_copy_53 : decode cX0_copy 53 = .ok (.invokestatic 24, 3) := by decide +kernel
theorem dX0_copy_56 : decode cX0_copy 56 = .ok (.return_, 1) := by decide +kernel
theorem dX0_told_0 : decode cX0_told 0 = .ok (.iload_n 2, 1) := by decide +kernel
theorem dX0_told_1 : decode cX0_told 1 = .ok (.tableswitch 59 0 3 #[31, 38, 45, 52], 31) := by decide +kernel
theorem dX0_told_32 : decode cX0_told 32 = .ok (.aload_n 0, 1) := by decide +kernel
theorem dX0_told_33 : decode cX0_told 33 = .ok (.getfield 9, 3) := by decide +kernel
theorem dX0_told_36 : decode cX0_told 36 = .ok (.iload_n 1, 1) := by decide +kernel
theorem dX0_told_37 : decode cX0_told 37 = .ok (.iaload, 1) := by decide +kernel
theorem dX0_told_38 : decode cX0_told 38 = .ok (.ireturn, 1) := by decide +kernel
theorem dX0_told_39 : decode cX0_told 39 = .ok (.aload_n 0, 1) := by decide +kernel
theorem dX0_told_40 : decode cX0_told 40 = .ok (.getfield 15, 3) := by decide +kernel
theorem dX0_told_43 : decode cX0_told 43 = .ok (.iload_n 1, 1) := by decide +kernel
theorem dX0_told_44 : decode cX0_told 44 = .ok (.iaload, 1) := by decide +kernel
theorem dX0_told_45 : decode cX0_told 45 = .ok (.ireturn, 1) := by decide +kernel
theorem dX0_told_46 : decode cX0_told 46 = .ok (.aload_n 0, 1) := by decide +kernel
theorem dX0_told_47 : decode cX0_told 47 = .ok (.getfield 18, 3) := by decide +kernel
theorem dX0_told_50 : decode cX0_told 50 = .ok (.iload_n 1, 1) := by decide +kernel
theorem dX0_told_51 : decode cX0_told 51 = .ok (.iaload, 1) := by decide +kernel
theorem dX0_told_52 : decode cX0_told 52 = .ok (.ireturn, 1) := by decide +kernel
theorem dX0_told_53 : decode cX0_told 53 = .ok (.aload_n 0, 1) := by decide +kernel
theorem dX0_told_54 : decode cX0_told 54 = .ok (.getfield 21, 3) := by decide +kernel
theorem dX0_told_57 : decode cX0_told 57 = .ok (.iload_n 1, 1) := by decide +kernel
theorem dX0_told_58 : decode cX0_told 58 = .ok (.iaload, 1) := by decide +kernel
theorem dX0_told_59 : decode cX0_told 59 = .ok (.ireturn, 1) := by decide +kernel
theorem dX0_told_60 : decode cX0_told 60 = .ok (.aload_n 0, 1) := by decide +kernel
theorem dX0_told_61 : decode cX0_told 61 = .ok (.iload_n 1, 1) := by decide +kernel
theorem dX0_told_62 : decode cX0_told 62 = .ok (.invokevirtual 30, 3) := by decide +kernel
theorem dX0_told_65 : decode cX0_told 65 = .ok (.ireturn, 1) := by decide +kernel
theorem dX0_change_0 : decode cX0_change 0 = .ok (.iload_n 2, 1) := by decide +kernel
theorem dX0_change_1 : decode cX0_change 1 = .ok (.lookupswitch 47 #[(0, 27), (1, 37)], 27) := by decide +kernel
theorem dX0_change_28 : decode cX0_change 28 = .ok (.aload_n 0, 1) := by decide +kernel
theorem dX0_change_29 : decode cX0_change 29 = .ok (.getfield 9, 3) := by decide +kernel
theorem dX0_change_32 : decode cX0_change 32 = .ok (.iload_n 1, 1) := by decide +kernel
theorem dX0_change_33 : decode cX0_change 33 = .ok (.iload_n 3, 1) := by decide +kernel
theorem dX0_change_34 : decode cX0_change 34 = .ok (.iastore, 1) := by decide +kernel
theorem dX0_change_35 : decode cX0_change 35 = .ok (.goto 20, 3) := by decide +kernel
theorem dX0_change_38 : decode cX0_change 38 = .ok (.aload_n 0, 1) := by decide +kernel
theorem dX0_change_39 : decode cX0_change 39 = .ok (.getfield 15, 3) := by decide +kernel
theorem dX0_change_42 : decode cX0_change 42 = .ok (.iload_n 1, 1) := by decide +kernel
theorem dX0_change_43 : decode cX0_change 43 = .ok (.iload_n 3, 1) := by decide +kernel
theorem dX0_change_44 : decode cX0_change 44 = .ok (.iastore, 1) := by decide +kernel
theorem dX0_change_45 : decode cX0_change 45 = .ok (.goto 10, 3) := by decide +kernel
theorem dX0_change_48 : decode cX0_change 48 = .ok (.aload_n 0, 1) := by decide +kernel
theorem dX0_change_49 : decode cX0_change 49 = .ok (.getfield 18, 3) := by decide +kernel
theorem dX0_change_52 : decode cX0_change 52 = .ok (.iload_n 1, 1) := by decide +kernel
theorem dX0_change_53 : decode cX0_change 53 = .ok (.iload_n 3, 1) := by decide +kernel
theorem dX0_change_54 : decode cX0_change 54 = .ok (.iastore, 1) := by decide +kernel
theorem dX0_change_55 : decode cX0_change 55 = .ok (.return_, 1) := by decide +kernel
theorem dX0_discardExcess_0 : decode cX0_discardExcess 0 = .ok (.iconst 0, 1) := by decide +kernel
theorem dX0_discardExcess_1 : decode cX0_discardExcess 1 = .ok (.aload_n 0, 1) := by decide +kernel
theorem dX0_discardExcess_2 : decode cX0_discardExcess 2 = .ok (.getfield 21, 3) := by decide +kernel
theorem dX0_discardExcess_5 : decode cX0_discardExcess 5 = .ok (.iload_n 1, 1) := by decide +kernel
theorem dX0_discardExcess_6 : decode cX0_discardExcess 6 = .ok (.iaload, 1) := by decide +kernel
theorem dX0_discardExcess_7 : decode cX0_discardExcess 7 = .ok (.aload_n 0, 1) := by decide +kernel
theorem dX0_discardExcess_8 : decode cX0_discardExcess 8 = .ok (.getfield 9, 3) := by decide +kernel
theorem dX0_discardExcess_11 : decode cX0_discardExcess 11 = .ok (.iload_n 1, 1) := by decide +kernel
theorem dX0_discardExcess_12 : decode cX0_discardExcess 12 = .ok (.iaload, 1) := by decide +kernel
theorem dX0_discardExcess_13 : decode cX0_discardExcess 13 = .ok (.isub, 1) := by decide +kernel
theorem dX0_discardExcess_14 : decode cX0_discardExcess 14 = .ok (.invokestatic 34, 3) := by decide +kernel
theorem dX0_discardExcess_17 : decode cX0_discardExcess 17 = .ok (.istore_n 2, 1) := by decide +kernel
theorem dX0_discardExcess_18 : decode cX0_discardExcess 18 = .ok (.aload_n 0, 1) := by decide +kernel
theorem dX0_discardExcess_19 : decode cX0_discardExcess 19 = .ok (.getfield 21, 3) := by decide +kernel
theorem dX0_discardExcess_22 : decode cX0_discardExcess 22 = .ok (.iload_n 1, 1) := by decide +kernel
theorem dX0_discardExcess_23 : decode cX0_discardExcess 23 = .ok (.dup2, 1) := by decide +kernel
theorem dX0_discardExcess_24 : decode cX0_discardExcess 24 = .ok (.iaload, 1) := by decide +kernel
theorem dX0_discardExcess_25 : decode cX0_discardExcess 25 = .ok (.iload_n 2, 1) := by decide +kernel
theorem dX0_discardExcess_26 : decode cX0_discardExcess 26 = .ok (.isub, 1) := by decide +kernel
theorem dX0_discardExcess_27 : decode cX0_discardExcess 27 = .ok (.iastore, 1) := by decide +kernel
theorem dX0_discardExcess_28 : decode cX0_discardExcess 28 = .ok (.iload_n 2, 1) := by decide +kernel
theorem dX0_discardExcess_29 : decode cX0_discardExcess 29 = .ok (.ireturn, 1) := by decide +kernel
theorem dX0_chargeOfAll_0 : decode cX0_chargeOfAll 0 = .ok (.aload_n 0, 1) := by decide +kernel
theorem dX0_chargeOfAll_1 : decode cX0_chargeOfAll 1 = .ok (.getfield 21, 3) := by decide +kernel
theorem dX0_chargeOfAll_4 : decode cX0_chargeOfAll 4 = .ok (.iconst 0, 1) := by decide +kernel
theorem dX0_chargeOfAll_5 : decode cX0_chargeOfAll 5 = .ok (.iaload, 1) := by decide +kernel
theorem dX0_chargeOfAll_6 : decode cX0_chargeOfAll 6 = .ok (.aload_n 0, 1) := by decide +kernel
theorem dX0_chargeOfAll_7 : decode cX0_chargeOfAll 7 = .ok (.getfield 21, 3) := by decide +kernel
theorem dX0_chargeOfAll_10 : decode cX0_chargeOfAll 10 = .ok (.iconst 1, 1) := by decide +kernel
theorem dX0_chargeOfAll_11 : decode cX0_chargeOfAll 11 = .ok (.iaload, 1) := by decide +kernel
theorem dX0_chargeOfAll_12 : decode cX0_chargeOfAll 12 = .ok (.iadd, 1) := by decide +kernel
theorem dX0_chargeOfAll_13 : decode cX0_chargeOfAll 13 = .ok (.ireturn, 1) := by decide +kernel
theorem dX0_canGive_0 : decode cX0_canGive 0 = .ok (.aload_n 0, 1) := by decide +kernel
theorem dX0_canGive_1 : decode cX0_canGive 1 = .ok (.getfield 21, 3) := by decide +kernel
theorem dX0_canGive_4 : decode cX0_canGive 4 = .ok (.iload_n 1, 1) := by decide +kernel
theorem dX0_canGive_5 : decode cX0_canGive 5 = .ok (.iaload, 1) := by decide +kernel
theorem dX0_canGive_6 : decode cX0_canGive 6 = .ok (.aload_n 0, 1) := by decide +kernel
theorem dX0_canGive_7 : decode cX0_canGive 7 = .ok (.getfield 15, 3) := by decide +kernel
theorem dX0_canGive_10 : decode cX0_canGive 10 = .ok (.iload_n 1, 1) := by decide +kernel
theorem dX0_canGive_11 : decode cX0_canGive 11 = .ok (.iaload, 1) := by decide +kernel
theorem dX0_canGive_12 : decode cX0_canGive 12 = .ok (.invokestatic 40, 3) := by decide +kernel
theorem dX0_canGive_15 : decode cX0_canGive 15 = .ok (.ireturn, 1) := by decide +kernel
theorem dX0_canGiveAll_0 : decode cX0_canGiveAll 0 = .ok (.aload_n 0, 1) := by decide +kernel
theorem dX0_canGiveAll_1 : decode cX0_canGiveAll 1 = .ok (.iconst 0, 1) := by decide +kernel
theorem dX0_canGiveAll_2 : decode cX0_canGiveAll 2 = .ok (.invokevirtual 30, 3) := by decide +kernel
theorem dX0_canGiveAll_5 : decode cX0_canGiveAll 5 = .ok (.aload_n 0, 1) := by decide +kernel
theorem dX0_canGiveAll_6 : decode cX0_canGiveAll 6 = .ok (.iconst 1, 1) := by decide +kernel
theorem dX0_canGiveAll_7 : decode cX0_canGiveAll 7 = .ok (.invokevirtual 30, 3) := by decide +kernel
theorem dX0_canGiveAll_10 : decode cX0_canGiveAll 10 = .ok (.iadd, 1) := by decide +kernel
theorem dX0_canGiveAll_11 : decode cX0_canGiveAll 11 = .ok (.ireturn, 1) := by decide +kernel
theorem dX0_give_0 : decode cX0_give 0 = .ok (.iload_n 1, 1) := by decide +kernel
theorem dX0_give_1 : decode cX0_give 1 = .ok (.istore_n 2, 1) := by decide +kernel
theorem dX0_give_2 : decode cX0_give 2 = .ok (.iconst 0, 1) := by decide +kernel
theorem dX0_give_3 : decode cX0_give 3 = .ok (.istore_n 3, 1) := by decide +kernel
theorem dX0_give_4 : decode cX0_give 4 = .ok (.iload_n 3, 1) := by decide +kernel
theorem dX0_give_5 : decode cX0_give 5 = .ok (.iconst 2, 1) := by decide +kernel
theorem dX0_give_6 : decode cX0_give 6 = .ok (.if_icmp .ge 36, 3) := by decide +kernel
theorem dX0_give_9 : decode cX0_give 9 = .ok (.iload_n 2, 1) := by decide +kernel
theorem dX0_give_10 : decode cX0_give 10 = .ok (.aload_n 0, 1) := by decide +kernel
theorem dX0_give_11 : decode cX0_give 11 = .ok (.iload_n 3, 1) := by decide +kernel
theorem dX0_give_12 : decode cX0_give 12 = .ok (.invokevirtual 30, 3) := by decide +kernel
theorem dX0_give_15 : decode cX0_give 15 = .ok (.invokestatic 40, 3) := by decide +kernel
theorem dX0_give_18 : decode cX0_give 18 = .ok (.istore 4, 2) := by decide +kernel
theorem dX0_give_20 : decode cX0_give 20 = .ok (.aload_n 0, 1) := by decide +kernel
theorem dX0_give_21 : decode cX0_give 21 = .ok (.getfield 21, 3) := by decide +kernel
theorem dX0_give_24 : decode cX0_give 24 = .ok (.iload_n 3, 1) := by decide +kernel
theorem dX0_give_25 : decode cX0_give 25 = .ok (.dup2, 1) := by decide +kernel
theorem dX0_give_26 : decode cX0_give 26 = .ok (.iaload, 1) := by decide +kernel
theorem dX0_give_27 : decode cX0_give 27 = .ok (.iload 4, 2) := by decide +kernel
theorem dX0_give_29 : decode cX0_give 29 = .ok (.isub, 1) := by decide +kernel
theorem dX0_give_30 : decode cX0_give 30 = .ok (.iastore, 1) := by decide +kernel
theorem dX0_give_31 : decode cX0_give 31 = .ok (.iload_n 2, 1) := by decide +kernel
theorem dX0_give_32 : decode cX0_give 32 = .ok (.iload 4, 2) := by decide +kernel
theorem dX0_give_34 : decode cX0_give 34 = .ok (.isub, 1) := by decide +kernel
theorem dX0_give_35 : decode cX0_give 35 = .ok (.istore_n 2, 1) := by decide +kernel
theorem dX0_give_36 : decode cX0_give 36 = .ok (.iinc 3 1, 3) := by decide +kernel
theorem dX0_give_39 : decode cX0_give 39 = .ok (.goto (-35), 3) := by decide +kernel
theorem dX0_give_42 : decode cX0_give 42 = .ok (.return_, 1) := by decide +kernel
theorem dX0_canTake_0 : decode cX0_canTake 0 = .ok (.aload_n 0, 1) := by decide +kernel
theorem dX0_canTake_1 : decode cX0_canTake 1 = .ok (.getfield 18, 3) := by decide +kernel
theorem dX0_canTake_4 : decode cX0_canTake 4 = .ok (.iload_n 1, 1) := by decide +kernel
theorem dX0_canTake_5 : decode cX0_canTake 5 = .ok (.iaload, 1) := by decide +kernel
theorem dX0_canTake_6 : decode cX0_canTake 6 = .ok (.istore_n 3, 1) := by decide +kernel
theorem dX0_canTake_7 : decode cX0_canTake 7 = .ok (.aload_n 0, 1) := by decide +kernel
theorem dX0_canTake_8 : decode cX0_canTake 8 = .ok (.getfield 9, 3) := by decide +kernel
theorem dX0_canTake_11 : decode cX0_canTake 11 = .ok (.iload_n 1, 1) := by decide +kernel
theorem dX0_canTake_12 : decode cX0_canTake 12 = .ok (.iaload, 1) := by decide +kernel
theorem dX0_canTake_13 : decode cX0_canTake 13 = .ok (.aload_n 0, 1) := by decide +kernel
theorem dX0_canTake_14 : decode cX0_canTake 14 = .ok (.getfield 21, 3) := by decide +kernel
theorem dX0_canTake_17 : decode cX0_canTake 17 = .ok (.iload_n 1, 1) := by decide +kernel
theorem dX0_canTake_18 : decode cX0_canTake 18 = .ok (.iaload, 1) := by decide +kernel
theorem dX0_canTake_19 : decode cX0_canTake 19 = .ok (.isub, 1) := by decide +kernel
theorem dX0_canTake_20 : decode cX0_canTake 20 = .ok (.istore 4, 2) := by decide +kernel
theorem dX0_canTake_22 : decode cX0_canTake 22 = .ok (.iload_n 3, 1) := by decide +kernel
theorem dX0_canTake_23 : decode cX0_canTake 23 = .ok (.ifCond .le 16, 3) := by decide +kernel
theorem dX0_canTake_26 : decode cX0_canTake 26 = .ok (.iload 4, 2) := by decide +kernel
theorem dX0_canTake_28 : decode cX0_canTake 28 = .ok (.bipush 100, 2) := by decide +kernel
theorem dX0_canTake_30 : decode cX0_canTake 30 = .ok (.imul, 1) := by decide +kernel
theorem dX0_canTake_31 : decode cX0_canTake 31 = .ok (.bipush 99, 2) := by decide +kernel
theorem dX0_canTake_33 : decode cX0_canTake 33 = .ok (.iadd, 1) := by decide +kernel
theorem dX0_canTake_34 : decode cX0_canTake 34 = .ok (.iload_n 3, 1) := by decide +kernel
theorem dX0_canTake_35 : decode cX0_canTake 35 = .ok (.idiv, 1) := by decide +kernel
theorem dX0_canTake_36 : decode cX0_canTake 36 = .ok (.goto 4, 3) := by decide +kernel
theorem dX0_canTake_39 : decode cX0_canTake 39 = .ok (.iconst 0, 1) := by decide +kernel
theorem dX0_canTake_40 : decode cX0_canTake 40 = .ok (.istore 5, 2) := by decide +kernel
theorem dX0_canTake_42 : decode cX0_canTake 42 = .ok (.iload 5, 2) := by decide +kernel
theorem dX0_canTake_44 : decode cX0_canTake 44 = .ok (.aload_n 0, 1) := by decide +kernel
theorem dX0_canTake_45 : decode cX0_canTake 45 = .ok (.getfield 15, 3) := by decide +kernel
theorem dX0_canTake_48 : decode cX0_canTake 48 = .ok (.iload_n 1, 1) := by decide +kernel
theorem dX0_canTake_49 : decode cX0_canTake 49 = .ok (.iaload, 1) := by decide +kernel
theorem dX0_canTake_50 : decode cX0_canTake 50 = .ok (.iload_n 2, 1) := by decide +kernel
theorem dX0_canTake_51 : decode cX0_canTake 51 = .ok (.invokestatic 40, 3) := by decide +kernel
theorem dX0_canTake_54 : decode cX0_canTake 54 = .ok (.invokestatic 40, 3) := by decide +kernel
theorem dX0_canTake_57 : decode cX0_canTake 57 = .ok (.ireturn, 1) := by decide +kernel
theorem dX0_takeIn_0 : decode cX0_takeIn 0 = .ok (.iload_n 2, 1) := by decide +kernel
theorem dX0_takeIn_1 : decode cX0_takeIn 1 = .ok (.aload_n 0, 1) := by decide +kernel
theorem dX0_takeIn_2 : decode cX0_takeIn 2 = .ok (.getfield 18, 3) := by decide +kernel
theorem dX0_takeIn_5 : decode cX0_takeIn 5 = .ok (.iload_n 1, 1) := by decide +kernel
theorem dX0_takeIn_6 : decode cX0_takeIn 6 = .ok (.iaload, 1) := by decide +kernel
theorem dX0_takeIn_7 : decode cX0_takeIn 7 = .ok (.imul, 1) := by decide +kernel
theorem dX0_takeIn_8 : decode cX0_takeIn 8 = .ok (.bipush 100, 2) := by decide +kernel
theorem dX0_takeIn_10 : decode cX0_takeIn 10 = .ok (.idiv, 1) := by decide +kernel
theorem dX0_takeIn_11 : decode cX0_takeIn 11 = .ok (.istore_n 3, 1) := by decide +kernel
theorem dX0_takeIn_12 : decode cX0_takeIn 12 = .ok (.aload_n 0, 1) := by decide +kernel
theorem dX0_takeIn_13 : decode cX0_takeIn 13 = .ok (.getfield 21, 3) := by decide +kernel
theorem dX0_takeIn_16 : decode cX0_takeIn 16 = .ok (.iload_n 1, 1) := by decide +kernel
theorem dX0_takeIn_17 : decode cX0_takeIn 17 = .ok (.dup2, 1) := by decide +kernel
theorem dX0_takeIn_18 : decode cX0_takeIn 18 = .ok (.iaload, 1) := by decide +kernel
theorem dX0_takeIn_19 : decode cX0_takeIn 19 = .ok (.iload_n 3, 1) := by decide +kernel
theorem dX0_takeIn_20 : decode cX0_takeIn 20 = .ok (.iadd, 1) := by decide +kernel
theorem dX0_takeIn_21 : decode cX0_takeIn 21 = .ok (.iastore, 1) := by decide +kernel
theorem dX0_takeIn_22 : decode cX0_takeIn 22 = .ok (.iload_n 3, 1) := by decide +kernel
theorem dX0_takeIn_23 : decode cX0_takeIn 23 = .ok (.ireturn, 1) := by decide +kernel
theorem dX1_init_0 : decode cX1_init 0 = .ok (.aload_n 0, 1) := by decide +kernel
theorem dX1_init_1 : decode cX1_init 1 = .ok (.invokespecial 3, 3) := by decide +kernel
theorem dX1_init_4 : decode cX1_init 4 = .ok (.aload_n 0, 1) := by decide +kernel
theorem dX1_init_5 : decode cX1_init 5 = .ok (.bipush 8, 2) := by decide +kernel
theorem dX1_init_7 : decode cX1_init 7 = .ok (.anewarray 9, 3) := by decide +kernel
theorem dX1_init_10 : decode cX1_init 10 = .ok (.putfield 11, 3) := by decide +kernel
theorem dX1_init_13 : decode cX1_init 13 = .ok (.iconst 0, 1) := by decide +kernel
theorem dX1_init_14 : decode cX1_init 14 = .ok (.istore_n 1, 1) := by decide +kernel
theorem dX1_init_15 : decode cX1_init 15 = .ok (.iload_n 1, 1) := by decide +kernel
theorem dX1_init_16 : decode cX1_init 16 = .ok (.bipush 8, 2) := by decide +kernel
theorem dX1_init_18 : decode cX1_init 18 = .ok (.if_icmp .ge 22, 3) := by decide +kernel
theorem dX1_init_21 : decode cX1_init 21 = .ok (.aload_n 0, 1) := by decide +kernel
theorem dX1_init_22 : decode cX1_init 22 = .ok (.getfield 11, 3) := by decide +kernel
theorem dX1_init_25 : decode cX1_init 25 = .ok (.iload_n 1, 1) := by decide +kernel
theorem dX1_init_26 : decode cX1_init 26 = .ok (.new 9, 3) := by decide +kernel
theorem dX1_init_29 : decode cX1_init 29 = .ok (.dup, 1) := by decide +kernel
theorem dX1_init_30 : decode cX1_init 30 = .ok (.invokespecial 17, 3) := by decide +kernel
theorem dX1_init_33 : decode cX1_init 33 = .ok (.aastore, 1) := by decide +kernel
theorem dX1_init_34 : decode cX1_init 34 = .ok (.iinc 1 1, 3) := by decide +kernel
theorem dX1_init_37 : decode cX1_init 37 = .ok (.goto (-22), 3) := by decide +kernel
theorem dX1_init_40 : decode cX1_init 40 = .ok (.return_, 1) := by decide +kernel
theorem dX1_record_0 : decode cX1_record 0 = .ok (.aload_n 0, 1) := by decide +kernel
theorem dX1_record_1 : decode cX1_record 1 = .ok (.getfield 18, 3) := by decide +kernel
theorem dX1_record_4 : decode cX1_record 4 = .ok (.bipush 8, 2) := by decide +kernel
theorem dX1_record_6 : decode cX1_record 6 = .ok (.if_icmp .lt 7, 3) := by decide +kernel
theorem dX1_record_9 : decode cX1_record 9 = .ok (.aload_n 0, 1) := by decide +kernel
theorem dX1_record_10 : decode cX1_record 10 = .ok (.invokevirtual 22, 3) := by decide +kernel
theorem dX1_record_13 : decode cX1_record 13 = .ok (.aload_n 0, 1) := by decide +kernel
theorem dX1_record_14 : decode cX1_record 14 = .ok (.getfield 11, 3) := by decide +kernel
theorem dX1_record_17 : decode cX1_record 17 = .ok (.aload_n 0, 1) := by decide +kernel
theorem dX1_record_18 : decode cX1_record 18 = .ok (.getfield 18, 3) := by decide +kernel
theorem dX1_record_21 : decode cX1_record 21 = .ok (.aaload, 1) := by decide +kernel
theorem dX1_record_22 : decode cX1_record 22 = .ok (.aload_n 1, 1) := by decide +kernel
theorem dX1_record_23 : decode cX1_record 23 = .ok (.invokevirtual 25, 3) := by decide +kernel
theorem dX1_record_26 : decode cX1_record 26 = .ok (.aload_n 0, 1) := by decide +kernel
theorem dX1_record_27 : decode cX1_record 27 = .ok (.dup, 1) := by decide +kernel
theorem dX1_record_28 : decode cX1_record 28 = .ok (.getfield 18, 3) := by decide +kernel
theorem dX1_record_31 : decode cX1_record 31 = .ok (.iconst 1, 1) := by decide +kernel
theorem dX1_record_32 : decode cX1_record 32 = .ok (.iadd, 1) := by decide +kernel
theorem dX1_record_33 : decode cX1_record 33 = .ok (.putfield 18, 3) := by decide +kernel
theorem dX1_record_36 : decode cX1_record 36 = .ok (.return_, 1) := by decide +kernel
theorem dX1_dropOldest_0 : decode cX1_dropOldest 0 = .ok (.aload_n 0, 1) := by decide +kernel
theorem dX1_dropOldest_1 : decode cX1_dropOldest 1 = .ok (.getfield 11, 3) := by decide +kernel
theorem dX1_dropOldest_4 : decode cX1_dropOldest 4 = .ok (.iconst 0, 1) := by decide +kernel
theorem dX1_dropOldest_5 : decode cX1_dropOldest 5 = .ok (.aaload, 1) := by decide +kernel
theorem dX1_dropOldest_6 : decode cX1_dropOldest 6 = .ok (.astore_n 1, 1) := by decide +kernel
theorem dX1_dropOldest_7 : decode cX1_dropOldest 7 = .ok (.iconst 0, 1) := by decide +kernel
theorem dX1_dropOldest_8 : decode cX1_dropOldest 8 = .ok (.istore_n 2, 1) := by decide +kernel
theorem dX1_dropOldest_9 : decode cX1_dropOldest 9 = .ok (.iload_n 2, 1) := by decide +kernel
theorem dX1_dropOldest_10 : decode cX1_dropOldest 10 = .ok (.bipush 7, 2) := by decide +kernel
theorem dX1_dropOldest_12 : decode cX1_dropOldest 12 = .ok (.if_icmp .ge 23, 3) := by decide +kernel
theorem dX1_dropOldest_15 : decode cX1_dropOldest 15 = .ok (.aload_n 0, 1) := by decide +kernel
theorem dX1_dropOldest_16 : decode cX1_dropOldest 16 = .ok (.getfield 11, 3) := by decide +kernel
theorem dX1_dropOldest_19 : decode cX1_dropOldest 19 = .ok (.iload_n 2, 1) := by decide +kernel
theorem dX1_dropOldest_20 : decode cX1_dropOldest 20 = .ok (.aload_n 0, 1) := by decide +kernel
theorem dX1_dropOldest_21 : decode cX1_dropOldest 21 = .ok (.getfield 11, 3) := by decide +kernel
theorem dX1_dropOldest_24 : decode cX1_dropOldest 24 = .ok (.iload_n 2, 1) := by decide +kernel
theorem dX1_dropOldest_25 : decode cX1_dropOldest 25 = .ok (.iconst 1, 1) := by decide +kernel
theorem dX1_dropOldest_26 : decode cX1_dropOldest 26 = .ok (.iadd, 1) := by decide +kernel
theorem dX1_dropOldest_27 : decode cX1_dropOldest 27 = .ok (.aaload, 1) := by decide +kernel
theorem dX1_dropOldest_28 : decode cX1_dropOldest 28 = .ok (.aastore, 1) := by decide +kernel
theorem dX1_dropOldest_29 : decode cX1_dropOldest 29 = .ok (.iinc 2 1, 3) := by decide +kernel
theorem dX1_dropOldest_32 : decode cX1_dropOldest 32 = .ok (.goto (-23), 3) := by decide +kernel
theorem dX1_dropOldest_35 : decode cX1_dropOldest 35 = .ok (.aload_n 0, 1) := by decide +kernel
theorem dX1_dropOldest_36 : decode cX1_dropOldest 36 = .ok (.getfield 11, 3) := by decide +kernel
theorem dX1_dropOldest_39 : decode cX1_dropOldest 39 = .ok (.bipush 7, 2) := by decide +kernel
theorem dX1_dropOldest_41 : decode cX1_dropOldest 41 = .ok (.aload_n 1, 1) := by decide +kernel
theorem dX1_dropOldest_42 : decode cX1_dropOldest 42 = .ok (.aastore, 1) := by decide +kernel
theorem dX1_dropOldest_43 : decode cX1_dropOldest 43 = .ok (.aload_n 0, 1) := by decide +kernel
theorem dX1_dropOldest_44 : decode cX1_dropOldest 44 = .ok (.dup, 1) := by decide +kernel
theorem dX1_dropOldest_45 : decode cX1_dropOldest 45 = .ok (.getfield 18, 3) := by decide +kernel
theorem dX1_dropOldest_48 : decode cX1_dropOldest 48 = .ok (.iconst 1, 1) := by decide +kernel
theorem dX1_dropOldest_49 : decode cX1_dropOldest 49 = .ok (.isub, 1) := by decide +kernel
theorem dX1_dropOldest_50 : decode cX1_dropOldest 50 = .ok (.putfield 18, 3) := by decide +kernel
theorem dX1_dropOldest_53 : decode cX1_dropOldest 53 = .ok (.return_, 1) := by decide +kernel
theorem dX1_takeBack_0 : decode cX1_takeBack 0 = .ok (.aload_n 0, 1) := by decide +kernel
theorem dX1_takeBack_1 : decode cX1_takeBack 1 = .ok (.dup, 1) := by decide +kernel
theorem dX1_takeBack_2 : decode cX1_takeBack 2 = .ok (.getfield 18, 3) := by decide +kernel
theorem dX1_takeBack_5 : decode cX1_takeBack 5 = .ok (.iconst 1, 1) := by decide +kernel
theorem dX1_takeBack_6 : decode cX1_takeBack 6 = .ok (.isub, 1) := by decide +kernel
theorem dX1_takeBack_7 : decode cX1_takeBack 7 = .ok (.putfield 18, 3) := by decide +kernel
theorem dX1_takeBack_10 : decode cX1_takeBack 10 = .ok (.aload_n 1, 1) := by decide +kernel
theorem dX1_takeBack_11 : decode cX1_takeBack 11 = .ok (.aload_n 0, 1) := by decide +kernel
theorem dX1_takeBack_12 : decode cX1_takeBack 12 = .ok (.getfield 11, 3) := by decide +kernel
theorem dX1_takeBack_15 : decode cX1_takeBack 15 = .ok (.aload_n 0, 1) := by decide +kernel
theorem dX1_takeBack_16 : decode cX1_takeBack 16 = .ok (.getfield 18, 3) := by decide +kernel
theorem dX1_takeBack_19 : decode cX1_takeBack 19 = .ok (.aaload, 1) := by decide +kernel
theorem dX1_takeBack_20 : decode cX1_takeBack 20 = .ok (.invokevirtual 25, 3) := by decide +kernel
theorem dX1_takeBack_23 : decode cX1_takeBack 23 = .ok (.return_, 1) := by decide +kernel
theorem dX2_init_0 : decode cX2_init 0 = .ok (.aload_n 0, 1) := by decide +kernel
theorem dX2_init_1 : decode cX2_init 1 = .ok (.invokespecial 3, 3) := by decide +kernel
theorem dX2_init_4 : decode cX2_init 4 = .ok (.aload_n 0, 1) := by decide +kernel
theorem dX2_init_5 : decode cX2_init 5 = .ok (.bipush 10, 2) := by decide +kernel
theorem dX2_init_7 : decode cX2_init 7 = .ok (.newarray .int, 2) := by decide +kernel
theorem dX2_init_9 : decode cX2_init 9 = .ok (.putfield 9, 3) := by decide +kernel
theorem dX2_init_12 : decode cX2_init 12 = .ok (.aload_n 0, 1) := by decide +kernel
theorem dX2_init_13 : decode cX2_init 13 = .ok (.bipush 10, 2) := by decide +kernel
theorem dX2_init_15 : decode cX2_init 15 = .ok (.newarray .int, 2) := by decide +kernel
theorem dX2_init_17 : decode cX2_init 17 = .ok (.putfield 15, 3) := by decide +kernel
theorem dX2_init_20 : decode cX2_init 20 = .ok (.aload_n 0, 1) := by decide +kernel
theorem dX2_init_21 : decode cX2_init 21 = .ok (.bipush 10, 2) := by decide +kernel
theorem dX2_init_23 : decode cX2_init 23 = .ok (.newarray .int, 2) := by decide +kernel
theorem dX2_init_25 : decode cX2_init 25 = .ok (.putfield 18, 3) := by decide +kernel
theorem dX2_init_28 : decode cX2_init 28 = .ok (.aload_n 0, 1) := by decide +kernel
theorem dX2_init_29 : decode cX2_init 29 = .ok (.bipush 10, 2) := by decide +kernel
theorem dX2_init_31 : decode cX2_init 31 = .ok (.newarray .int, 2) := by decide +kernel
theorem dX2_init_33 : decode cX2_init 33 = .ok (.putfield 21, 3) := by decide +kernel
theorem dX2_init_36 : decode cX2_init 36 = .ok (.aload_n 0, 1) := by decide +kernel
theorem dX2_init_37 : decode cX2_init 37 = .ok (.bipush 10, 2) := by decide +kernel
theorem dX2_init_39 : decode cX2_init 39 = .ok (.newarray .int, 2) := by decide +kernel
theorem dX2_init_41 : decode cX2_init 41 = .ok (.putfield 24, 3) := by decide +kernel
theorem dX2_init_44 : decode cX2_init 44 = .ok (.aload_n 0, 1) := by decide +kernel
theorem dX2_init_45 : decode cX2_init 45 = .ok (.bipush 10, 2) := by decide +kernel
theorem dX2_init_47 : decode cX2_init 47 = .ok (.newarray .int, 2) := by decide +kernel
theorem dX2_init_49 : decode cX2_init 49 = .ok (.putfield 27, 3) := by decide +kernel
theorem dX2_init_52 : decode cX2_init 52 = .ok (.aload_n 0, 1) := by decide +kernel
theorem dX2_init_53 : decode cX2_init 53 = .ok (.bipush 10, 2) := by decide +kernel
theorem dX2_init_55 : decode cX2_init 55 = .ok (.newarray .int, 2) := by decide +kernel
theorem dX2_init_57 : decode cX2_init 57 = .ok (.putfield 30, 3) := by decide +kernel
theorem dX2_init_60 : decode cX2_init 60 = .ok (.aload_n 0, 1) := by decide +kernel
theorem dX2_init_61 : decode cX2_init 61 = .ok (.bipush 10, 2) := by decide +kernel
theorem dX2_init_63 : decode cX2_init 63 = .ok (.newarray .int, 2) := by decide +kernel
theorem dX2_init_65 : decode cX2_init 65 = .ok (.putfield 33, 3) := by decide +kernel
theorem dX2_init_68 : decode cX2_init 68 = .ok (.aload_n 0, 1) := by decide +kernel
theorem dX2_init_69 : decode cX2_init 69 = .ok (.bipush 10, 2) := by decide +kernel
theorem dX2_init_71 : decode cX2_init 71 = .ok (.newarray .int, 2) := by decide +kernel
theorem dX2_init_73 : decode cX2_init 73 = .ok (.putfield 36, 3) := by decide +kernel
theorem dX2_init_76 : decode cX2_init 76 = .ok (.aload_n 0, 1) := by decide +kernel
theorem dX2_init_77 : decode cX2_init 77 = .ok (.bipush 10, 2) := by decide +kernel
theorem dX2_init_79 : decode cX2_init 79 = .ok (.newarray .int, 2) := by decide +kernel
theorem dX2_init_81 : decode cX2_init 81 = .ok (.putfield 39, 3) := by decide +kernel
theorem dX2_init_84 : decode cX2_init 84 = .ok (.return_, 1) := by decide +kernel
theorem dX2_add_0 : decode cX2_add 0 = .ok (.aload_n 0, 1) := by decide +kernel
theorem dX2_add_1 : decode cX2_add 1 = .ok (.getfield 42, 3) := by decide +kernel
theorem dX2_add_4 : decode cX2_add 4 = .ok (.istore_n 3, 1) := by decide +kernel
theorem dX2_add_5 : decode cX2_add 5 = .ok (.aload_n 0, 1) := by decide +kernel
theorem dX2_add_6 : decode cX2_add 6 = .ok (.getfield 9, 3) := by decide +kernel
theorem dX2_add_9 : decode cX2_add 9 = .ok (.iload_n 3, 1) := by decide +kernel
theorem dX2_add_10 : decode cX2_add 10 = .ok (.iload_n 1, 1) := by decide +kernel
theorem dX2_add_11 : decode cX2_add 11 = .ok (.iastore, 1) := by decide +kernel
theorem dX2_add_12 : decode cX2_add 12 = .ok (.aload_n 0, 1) := by decide +kernel
theorem dX2_add_13 : decode cX2_add 13 = .ok (.getfield 15, 3) := by decide +kernel
theorem dX2_add_16 : decode cX2_add 16 = .ok (.iload_n 3, 1) := by decide +kernel
theorem dX2_add_17 : decode cX2_add 17 = .ok (.iload_n 2, 1) := by decide +kernel
theorem dX2_add_18 : decode cX2_add 18 = .ok (.iastore, 1) := by decide +kernel
theorem dX2_add_19 : decode cX2_add 19 = .ok (.aload_n 0, 1) := by decide +kernel
theorem dX2_add_20 : decode cX2_add 20 = .ok (.getfield 18, 3) := by decide +kernel
theorem dX2_add_23 : decode cX2_add 23 = .ok (.iload_n 3, 1) := by decide +kernel
theorem dX2_add_24 : decode cX2_add 24 = .ok (.iconst 0, 1) := by decide +kernel
theorem dX2_add_25 : decode cX2_add 25 = .ok (.iastore, 1) := by decide +kernel
theorem dX2_add_26 : decode cX2_add 26 = .ok (.aload_n 0, 1) := by decide +kernel
theorem dX2_add_27 : decode cX2_add 27 = .ok (.getfield 21, 3) := by decide +kernel
theorem dX2_add_30 : decode cX2_add 30 = .ok (.iload_n 3, 1) := by decide +kernel
theorem dX2_add_31 : decode cX2_add 31 = .ok (.iconst 1, 1) := by decide +kernel
theorem dX2_add_32 : decode cX2_add 32 = .ok (.iastore, 1) := by decide +kernel
theorem dX2_add_33 : decode cX2_add 33 = .ok (.aload_n 0, 1) := by decide +kernel
theorem dX2_add_34 : decode cX2_add 34 = .ok (.getfield 24, 3) := by decide +kernel
theorem dX2_add_37 : decode cX2_add 37 = .ok (.iload_n 3, 1) := by decide +kernel
theorem dX2_add_38 : decode cX2_add 38 = .ok (.iconst 0, 1) := by decide +kernel
theorem dX2_add_39 : decode cX2_add 39 = .ok (.iastore, 1) := by decide +kernel
theorem dX2_add_40 : decode cX2_add 40 = .ok (.aload_n 0, 1) := by decide +kernel
theorem dX2_add_41 : decode cX2_add 41 = .ok (.getfield 27, 3) := by decide +kernel
theorem dX2_add_44 : decode cX2_add 44 = .ok (.iload_n 3, 1) := by decide +kernel
theorem dX2_add_45 : decode cX2_add 45 = .ok (.iconst 0, 1) := by decide +kernel
theorem dX2_add_46 : decode cX2_add 46 = .ok (.iastore, 1) := by decide +kernel
theorem dX2_add_47 : decode cX2_add 47 = .ok (.aload_n 0, 1) := by decide +kernel
theorem dX2_add_48 : decode cX2_add 48 = .ok (.getfield 30, 3) := by decide +kernel
theorem dX2_add_51 : decode cX2_add 51 = .ok (.iload_n 3, 1) := by decide +kernel
theorem dX2_add_52 : decode cX2_add 52 = .ok (.iconst 0, 1) := by decide +kernel
theorem dX2_add_53 : decode cX2_add 53 = .ok (.iastore, 1) := by decide +kernel
theorem dX2_add_54 : decode cX2_add 54 = .ok (.aload_n 0, 1) := by decide +kernel
theorem dX2_add_55 : decode cX2_add 55 = .ok (.getfield 33, 3) := by decide +kernel
theorem dX2_add_58 : decode cX2_add 58 = .ok (.iload_n 3, 1) := by decide +kernel
theorem dX2_add_59 : decode cX2_add 59 = .ok (.iconst 0, 1) := by decide +kernel
theorem dX2_add_60 : decode cX2_add 60 = .ok (.iastore, 1) := by decide +kernel
theorem dX2_add_61 : decode cX2_add 61 = .ok (.aload_n 0, 1) := by decide +kernel
theorem dX2_add_62 : decode cX2_add 62 = .ok (.dup, 1) := by decide +kernel
theorem dX2_add_63 : decode cX2_add 63 = .ok (.getfield 42, 3) := by decide +kernel
theorem dX2_add_66 : decode cX2_add 66 = .ok (.iconst 1, 1) := by decide +kernel
theorem dX2_add_67 : decode cX2_add 67 = .ok (.iadd, 1) := by decide +kernel
theorem dX2_add_68 : decode cX2_add 68 = .ok (.putfield 42, 3) := by decide +kernel
theorem dX2_add_71 : decode cX2_add 71 = .ok (.iload_n 3, 1) := by decide +kernel
theorem dX2_add_72 : decode cX2_add 72 = .ok (.ireturn, 1) := by decide +kernel
theorem dX2_remove_0 : decode cX2_remove 0 = .ok (.aload_n 0, 1) := by decide +kernel
theorem dX2_remove_1 : decode cX2_remove 1 = .ok (.dup, 1) := by decide +kernel
theorem dX2_remove_2 : decode cX2_remove 2 = .ok (.getfield 42, 3) := by decide +kernel
theorem dX2_remove_5 : decode cX2_remove 5 = .ok (.iconst 1, 1) := by decide +kernel
theorem dX2_remove_6 : decode cX2_remove 6 = .ok (.isub, 1) := by decide +kernel
theorem dX2_remove_7 : decode cX2_remove 7 = .ok (.putfield 42, 3) := by decide +kernel
theorem dX2_remove_10 : decode cX2_remove 10 = .ok (.iload_n 1, 1) := by decide +kernel
theorem dX2_remove_11 : decode cX2_remove 11 = .ok (.istore_n 2, 1) := by decide +kernel
theorem dX2_remove_12 : decode cX2_remove 12 = .ok (.iload_n 2, 1) := by decide +kernel
theorem dX2_remove_13 : decode cX2_remove 13 = .ok (.aload_n 0, 1) := by decide +kernel
theorem dX2_remove_14 : decode cX2_remove 14 = .ok (.getfield 42, 3) := by decide +kernel
theorem dX2_remove_17 : decode cX2_remove 17 = .ok (.if_icmp .ge 121, 3) := by decide +kernel
theorem dX2_remove_20 : decode cX2_remove 20 = .ok (.aload_n 0, 1) := by decide +kernel
theorem dX2_remove_21 : decode cX2_remove 21 = .ok (.getfield 9, 3) := by decide +kernel
theorem dX2_remove_24 : decode cX2_remove 24 = .ok (.iload_n 2, 1) := by decide +kernel
theorem dX2_remove_25 : decode cX2_remove 25 = .ok (.aload_n 0, 1) := by decide +kernel
theorem dX2_remove_26 : decode cX2_remove 26 = .ok (.getfield 9, 3) := by decide +kernel
theorem dX2_remove_29 : decode cX2_remove 29 = .ok (.iload_n 2, 1) := by decide +kernel
theorem dX2_remove_30 : decode cX2_remove 30 = .ok (.iconst 1, 1) := by decide +kernel
theorem dX2_remove_31 : decode cX2_remove 31 = .ok (.iadd, 1) := by decide +kernel
theorem dX2_remove_32 : decode cX2_remove 32 = .ok (.iaload, 1) := by decide +kernel
theorem dX2_remove_33 : decode cX2_remove 33 = .ok (.iastore, 1) := by decide +kernel
theorem dX2_remove_34 : decode cX2_remove 34 = .ok (.aload_n 0, 1) := by decide +kernel
theorem dX2_remove_35 : decode cX2_remove 35 = .ok (.getfield 15, 3) := by decide +kernel
theorem dX2_remove_38 : decode cX2_remove 38 = .ok (.iload_n 2, 1) := by decide +kernel
theorem dX2_remove_39 : decode cX2_remove 39 = .ok (.aload_n 0, 1) := by decide +kernel
theorem dX2_remove_40 : decode cX2_remove 40 = .ok (.getfield 15, 3) := by decide +kernel
theorem dX2_remove_43 : decode cX2_remove 43 = .ok (.iload_n 2, 1) := by decide +kernel
theorem dX2_remove_44 : decode cX2_remove 44 = .ok (.iconst 1, 1) := by decide +kernel
theorem dX2_remove_45 : decode cX2_remove 45 = .ok (.iadd, 1) := by decide +kernel
theorem dX2_remove_46 : decode cX2_remove 46 = .ok (.iaload, 1) := by decide +kernel
theorem dX2_remove_47 : decode cX2_remove 47 = .ok (.iastore, 1) := by decide +kernel
theorem dX2_remove_48 : decode cX2_remove 48 = .ok (.aload_n 0, 1) := by decide +kernel
theorem dX2_remove_49 : decode cX2_remove 49 = .ok (.getfield 18, 3) := by decide +kernel
theorem dX2_remove_52 : decode cX2_remove 52 = .ok (.iload_n 2, 1) := by decide +kernel
theorem dX2_remove_53 : decode cX2_remove 53 = .ok (.aload_n 0, 1) := by decide +kernel
theorem dX2_remove_54 : decode cX2_remove 54 = .ok (.getfield 18, 3) := by decide +kernel
theorem dX2_remove_57 : decode cX2_remove 57 = .ok (.iload_n 2, 1) := by decide +kernel
theorem dX2_remove_58 : decode cX2_remove 58 = .ok (.iconst 1, 1) := by decide +kernel
theorem dX2_remove_59 : decode cX2_remove 59 = .ok (.iadd, 1) := by decide +kernel
theorem dX2_remove_60 : decode cX2_remove 60 = .ok (.iaload, 1) := by decide +kernel
theorem dX2_remove_61 : decode cX2_remove 61 = .ok (.iastore, 1) := by decide +kernel
theorem dX2_remove_62 : decode cX2_remove 62 = .ok (.aload_n 0, 1) := by decide +kernel
theorem dX2_remove_63 : decode cX2_remove 63 = .ok (.getfield 21, 3) := by decide +kernel
theorem dX2_remove_66 : decode cX2_remove 66 = .ok (.iload_n 2, 1) := by decide +kernel
theorem dX2_remove_67 : decode cX2_remove 67 = .ok (.aload_n 0, 1) := by decide +kernel
theorem dX2_remove_68 : decode cX2_remove 68 = .ok (.getfield 21, 3) := by decide +kernel
theorem dX2_remove_71 : decode cX2_remove 71 = .ok (.iload_n 2, 1) := by decide +kernel
theorem dX2_remove_72 : decode cX2_remove 72 = .ok (.iconst 1, 1) := by decide +kernel
theorem dX2_remove_73 : decode cX2_remove 73 = .ok (.iadd, 1) := by decide +kernel
theorem dX2_remove_74 : decode cX2_remove 74 = .ok (.iaload, 1) := by decide +kernel
theorem dX2_remove_75 : decode cX2_remove 75 = .ok (.iastore, 1) := by decide +kernel
theorem dX2_remove_76 : decode cX2_remove 76 = .ok (.aload_n 0, 1) := by decide +kernel
theorem dX2_remove_77 : decode cX2_remove 77 = .ok (.getfield 24, 3) := by decide +kernel
theorem dX2_remove_80 : decode cX2_remove 80 = .ok (.iload_n 2, 1) := by decide +kernel
theorem dX2_remove_81 : decode cX2_remove 81 = .ok (.aload_n 0, 1) := by decide +kernel
theorem dX2_remove_82 : decode cX2_remove 82 = .ok (.getfield 24, 3) := by decide +kernel
theorem dX2_remove_85 : decode cX2_remove 85 = .ok (.iload_n 2, 1) := by decide +kernel
theorem dX2_remove_86 : decode cX2_remove 86 = .ok (.iconst 1, 1) := by decide +kernel
theorem dX2_remove_87 : decode cX2_remove 87 = .ok (.iadd, 1) := by decide +kernel
theorem dX2_remove_88 : decode cX2_remove 88 = .ok (.iaload, 1) := by decide +kernel
theorem dX2_remove_89 : decode cX2_remove 89 = .ok (.iastore, 1) := by decide +kernel
theorem dX2_remove_90 : decode cX2_remove 90 = .ok (.aload_n 0, 1) := by decide +kernel
theorem dX2_remove_91 : decode cX2_remove 91 = .ok (.getfield 27, 3) := by decide +kernel
theorem dX2_remove_94 : decode cX2_remove 94 = .ok (.iload_n 2, 1) := by decide +kernel
theorem dX2_remove_95 : decode cX2_remove 95 = .ok (.aload_n 0, 1) := by decide +kernel
theorem dX2_remove_96 : decode cX2_remove 96 = .ok (.getfield 27, 3) := by decide +kernel
theorem dX2_remove_99 : decode cX2_remove 99 = .ok (.iload_n 2, 1) := by decide +kernel
theorem dX2_remove_100 : decode cX2_remove 100 = .ok (.iconst 1, 1) := by decide +kernel
theorem dX2_remove_101 : decode cX2_remove 101 = .ok (.iadd, 1) := by decide +kernel
theorem dX2_remove_102 : decode cX2_remove 102 = .ok (.iaload, 1) := by decide +kernel
theorem dX2_remove_103 : decode cX2_remove 103 = .ok (.iastore, 1) := by decide +kernel
theorem dX2_remove_104 : decode cX2_remove 104 = .ok (.aload_n 0, 1) := by decide +kernel
theorem dX2_remove_105 : decode cX2_remove 105 = .ok (.getfield 30, 3) := by decide +kernel
theorem dX2_remove_108 : decode cX2_remove 108 = .ok (.iload_n 2, 1) := by decide +kernel
theorem dX2_remove_109 : decode cX2_remove 109 = .ok (.aload_n 0, 1) := by decide +kernel
theorem dX2_remove_110 : decode cX2_remove 110 = .ok (.getfield 30, 3) := by decide +kernel
theorem dX2_remove_113 : decode cX2_remove 113 = .ok (.iload_n 2, 1) := by decide +kernel
theorem dX2_remove_114 : decode cX2_remove 114 = .ok (.iconst 1, 1) := by decide +kernel
theorem dX2_remove_115 : decode cX2_remove 115 = .ok (.iadd, 1) := by decide +kernel
theorem dX2_remove_116 : decode cX2_remove 116 = .ok (.iaload, 1) := by decide +kernel
theorem dX2_remove_117 : decode cX2_remove 117 = .ok (.iastore, 1) := by decide +kernel
theorem dX2_remove_118 : decode cX2_remove 118 = .ok (.aload_n 0, 1) := by decide +kernel
theorem dX2_remove_119 : decode cX2_remove 119 = .ok (.getfield 33, 3) := by decide +kernel
theorem dX2_remove_122 : decode cX2_remove 122 = .ok (.iload_n 2, 1) := by decide +kernel
theorem dX2_remove_123 : decode cX2_remove 123 = .ok (.aload_n 0, 1) := by decide +kernel
theorem dX2_remove_124 : decode cX2_remove 124 = .ok (.getfield 33, 3) := by decide +kernel
theorem dX2_remove_127 : decode cX2_remove 127 = .ok (.iload_n 2, 1) := by decide +kernel
theorem dX2_remove_128 : decode cX2_remove 128 = .ok (.iconst 1, 1) := by decide +kernel
theorem dX2_remove_129 : decode cX2_remove 129 = .ok (.iadd, 1) := by decide +kernel
theorem dX2_remove_130 : decode cX2_remove 130 = .ok (.iaload, 1) := by decide +kernel
theorem dX2_remove_131 : decode cX2_remove 131 = .ok (.iastore, 1) := by decide +kernel
theorem dX2_remove_132 : decode cX2_remove 132 = .ok (.iinc 2 1, 3) := by decide +kernel
theorem dX2_remove_135 : decode cX2_remove 135 = .ok (.goto (-123), 3) := by decide +kernel
theorem dX2_remove_138 : decode cX2_remove 138 = .ok (.return_, 1) := by decide +kernel
theorem dX2_copy_0 : decode cX2_copy 0 = .ok (.aload_n 0, 1) := by decide +kernel
theorem dX2_copy_1 : decode cX2_copy 1 = .ok (.aload_n 1, 1) := by decide +kernel
theorem dX2_copy_2 : decode cX2_copy 2 = .ok (.getfield 42, 3) := by decide +kernel
theorem dX2_copy_5 : decode cX2_copy 5 = .ok (.putfield 42, 3) := by decide +kernel
theorem dX2_copy_8 : decode cX2_copy 8 = .ok (.aload_n 1, 1) := by decide +kernel
theorem dX2_copy_9 : decode cX2_copy 9 = .ok (.getfield 9, 3) := by decide +kernel
theorem dX2_copy_12 : decode cX2_copy 12 = .ok (.iconst 0, 1) := by decide +kernel
theorem dX2_copy_13 : decode cX2_copy 13 = .ok (.aload_n 0, 1) := by decide +kernel
theorem dX2_copy_14 : decode cX2_copy 14 = .ok (.getfield 9, 3) := by decide +kernel
theorem dX2_copy_17 : decode cX2_copy 17 = .ok (.iconst 0, 1) := by decide +kernel
theorem dX2_copy_18 : decode cX2_copy 18 = .ok (.bipush 10, 2) := by decide +kernel
theorem dX2_copy_20 : decode cX2_copy 20 = .ok (.invokestatic 46, 3) := by decide +kernel
theorem dX2_copy_23 : decode cX2_copy 23 = .ok (.aload_n 1, 1) := by decide +kernel
theorem dX2_copy_24 : decode cX2_copy 24 = .ok (.getfield 15, 3) := by decide +kernel
theorem dX2_copy_27 : decode cX2_copy 27 = .ok (.iconst 0, 1) := by decide +kernel
theorem dX2_copy_28 : decode cX2_copy 28 = .ok (.aload_n 0, 1) := by decide +kernel
theorem dX2_copy_29 : decode cX2_copy 29 = .ok (.getfield 15, 3) := by decide +kernel
theorem dX2_copy_32 : decode cX2_copy 32 = .ok (.iconst 0, 1) := by decide +kernel
theorem dX2_copy_33 : decode cX2_copy 33 = .ok (.bipush 10, 2) := by decide +kernel
theorem dX2_copy_35 : decode cX2_copy 35 = .ok (.invokestatic 46, 3) := by decide +kernel
theorem dX2_copy_38 : decode cX2_copy 38 = .ok (.aload_n 1, 1) := by decide +kernel
theorem dX2_copy_39 : decode cX2_copy 39 = .ok (.getfield 18, 3) := by decide +kernel
theorem dX2_copy_42 : decode cX2_copy 42 = .ok (.iconst 0, 1) := by decide +kernel
theorem dX2_copy_43 : decode cX2_copy 43 = .ok (.aload_n 0, 1) := by decide +kernel
theorem dX2_copy_44 : decode cX2_copy 44 = .ok (.getfield 18, 3) := by decide +kernel
theorem dX2_copy_47 : decode cX2_copy 47 = .ok (.iconst 0, 1) := by decide +kernel
theorem dX2_copy_48 : decode cX2_copy 48 = .ok (.bipush 10, 2) := by decide +kernel
theorem dX2_copy_50 : decode cX2_copy 50 = .ok (.invokestatic 46, 3) := by decide +kernel
theorem dX2_copy_53 : decode cX2_copy 53 = .ok (.aload_n 1, 1) := by decide +kernel
theorem dX2_copy_54 : decode cX2_copy 54 = .ok (.getfield 21, 3) := by decide +kernel
theorem dX2_copy_57 : decode cX2_copy 57 = .ok (.iconst 0, 1) := by decide +kernel
theorem dX2_copy_58 : decode cX2_copy 58 = .ok (.aload_n 0, 1) := by decide +kernel
theorem dX2_copy_59 : decode cX2_copy 59 = .ok (.getfield 21, 3) := by decide +kernel
theorem dX2_copy_62 : decode cX2_copy 62 = .ok (.iconst 0, 1) := by decide +kernel
theorem dX2_copy_63 : decode cX2_copy 63 = .ok (.bipush 10, 2) := by decide +kernel
theorem dX2_copy_65 : decode cX2_copy 65 = .ok (.invokestatic 46, 3) := by decide +kernel
theorem dX2_copy_68 : decode cX2_copy 68 = .ok (.aload_n 1, 1) := by decide +kernel
theorem dX2_copy_69 : decode cX2_copy 69 = .ok (.getfield 24, 3) := by decide +kernel
theorem dX2_copy_72 : decode cX2_copy 72 = .ok (.iconst 0, 1) := by decide +kernel
theorem dX2_copy_73 : decode cX2_copy 73 = .ok (.aload_n 0, 1) := by decide +kernel
theorem dX2_copy_74 : decode cX2_copy 74 = .ok (.getfield 24, 3) := by decide +kernel
theorem dX2_copy_77 : decode cX2_copy 77 = .ok (.iconst 0, 1) := by decide +kernel
theorem dX2_copy_78 : decode cX2_copy 78 = .ok (.bipush 10, 2) := by decide +kernel
theorem dX2_copy_80 : decode cX2_copy 80 = .ok (.invokestatic 46, 3) := by decide +kernel
theorem dX2_copy_83 : decode cX2_copy 83 = .ok (.aload_n 1, 1) := by decide +kernel
theorem dX2_copy_84 : decode cX2_copy 84 = .ok (.getfield 27, 3) := by decide +kernel
theorem dX2_copy_87 : decode cX2_copy 87 = .ok (.iconst 0, 1) := by decide +kernel
theorem dX2_copy_88 : decode cX2_copy 88 = .ok (.aload_n 0, 1) := by decide +kernel
theorem dX2_copy_89 : decode cX2_copy 89 = .ok (.getfield 27, 3) := by decide +kernel
theorem dX2_copy_92 : decode cX2_copy 92 = .ok (.iconst 0, 1) := by decide +kernel
theorem dX2_copy_93 : decode cX2_copy 93 = .ok (.bipush 10, 2) := by decide +kernel
theorem dX2_copy_95 : decode cX2_copy 95 = .ok (.invokestatic 46, 3) := by decide +kernel
theorem dX2_copy_98 : decode cX2_copy 98 = .ok (.aload_n 1, 1) := by decide +kernel
theorem dX2_copy_99 : decode cX2_copy 99 = .ok (.getfield 30, 3) := by decide +kernel
theorem dX2_copy_102 : decode cX2_copy 102 = .ok (.iconst 0, 1) := by decide +kernel
theorem dX2_copy_103 : decode cX2_copy 103 = .ok (.aload_n 0, 1) := by decide +kernel
theorem dX2_copy_104 : decode cX2_copy 104 = .ok (.getfield 30, 3) := by decide +kernel
theorem dX2_copy_107 : decode cX2_copy 107 = .ok (.iconst 0, 1) := by decide +kernel
theorem dX2_copy_108 : decode cX2_copy 108 = .ok (.bipush 10, 2) := by decide +kernel
theorem dX2_copy_110 : decode cX2_copy 110 = .ok (.invokestatic 46, 3) := by decide +kernel
theorem dX2_copy_113 : decode cX2_copy 113 = .ok (.aload_n 1, 1) := by decide +kernel
theorem dX2_copy_114 : decode cX2_copy 114 = .ok (.getfield 33, 3) := by decide +kernel
theorem dX2_copy_117 : decode cX2_copy 117 = .ok (.iconst 0, 1) := by decide +kernel
theorem dX2_copy_118 : decode cX2_copy 118 = .ok (.aload_n 0, 1) := by decide +kernel
theorem dX2_copy_119 : decode cX2_copy 119 = .ok (.getfield 33, 3) := by decide +kernel
theorem dX2_copy_122 : decode cX2_copy 122 = .ok (.iconst 0, 1) := by decide +kernel
theorem dX2_copy_123 : decode cX2_copy 123 = .ok (.bipush 10, 2) := by decide +kernel
theorem dX2_copy_125 : decode cX2_copy 125 = .ok (.invokestatic 46, 3) := by decide +kernel
theorem dX2_copy_128 : decode cX2_copy 128 = .ok (.return_, 1) := by decide +kernel
theorem dX2_told_0 : decode cX2_told 0 = .ok (.iload_n 2, 1) := by decide +kernel
theorem dX2_told_1 : decode cX2_told 1 = .ok (.tableswitch 96 0 7 #[47, 54, 61, 68, 75, 96, 82, 89], 47) := by decide +kernel
theorem dX2_told_48 : decode cX2_told 48 = .ok (.aload_n 0, 1) := by decide +kernel
theorem dX2_told_49 : decode cX2_told 49 = .ok (.getfield 9, 3) := by decide +kernel
theorem dX2_told_52 : decode cX2_told 52 = .ok (.iload_n 1, 1) := by decide +kernel
theorem dX2_told_53 : decode cX2_told 53 = .ok (.iaload, 1) := by decide +kernel
theorem dX2_told_54 : decode cX2_told 54 = .ok (.ireturn, 1) := by decide +kernel
theorem dX2_told_55 : decode cX2_told 55 = .ok (.aload_n 0, 1) := by decide +kernel
theorem dX2_told_56 : decode cX2_told 56 = .ok (.getfield 15, 3) := by decide +kernel
theorem dX2_told_59 : decode cX2_told 59 = .ok (.iload_n 1, 1) := by decide +kernel
theorem dX2_told_60 : decode cX2_told 60 = .ok (.iaload, 1) := by decide +kernel
theorem dX2_told_61 : decode cX2_told 61 = .ok (.ireturn, 1) := by decide +kernel
theorem dX2_told_62 : decode cX2_told 62 = .ok (.aload_n 0, 1) := by decide +kernel
theorem dX2_told_63 : decode cX2_told 63 = .ok (.getfield 18, 3) := by decide +kernel
theorem dX2_told_66 : decode cX2_told 66 = .ok (.iload_n 1, 1) := by decide +kernel
theorem dX2_told_67 : decode cX2_told 67 = .ok (.iaload, 1) := by decide +kernel
theorem dX2_told_68 : decode cX2_told 68 = .ok (.ireturn, 1) := by decide +kernel
theorem dX2_told_69 : decode cX2_told 69 = .ok (.aload_n 0, 1) := by decide +kernel
theorem dX2_told_70 : decode cX2_told 70 = .ok (.getfield 21, 3) := by decide +kernel
theorem dX2_told_73 : decode cX2_told 73 = .ok (.iload_n 1, 1) := by decide +kernel
theorem dX2_told_74 : decode cX2_told 74 = .ok (.iaload, 1) := by decide +kernel
theorem dX2_told_75 : decode cX2_told 75 = .ok (.ireturn, 1) := by decide +kernel
theorem dX2_told_76 : decode cX2_told 76 = .ok (.aload_n 0, 1) := by decide +kernel
theorem dX2_told_77 : decode cX2_told 77 = .ok (.getfield 24, 3) := by decide +kernel
theorem dX2_told_80 : decode cX2_told 80 = .ok (.iload_n 1, 1) := by decide +kernel
theorem dX2_told_81 : decode cX2_told 81 = .ok (.iaload, 1) := by decide +kernel
theorem dX2_told_82 : decode cX2_told 82 = .ok (.ireturn, 1) := by decide +kernel
theorem dX2_told_83 : decode cX2_told 83 = .ok (.aload_n 0, 1) := by decide +kernel
theorem dX2_told_84 : decode cX2_told 84 = .ok (.getfield 27, 3) := by decide +kernel
theorem dX2_told_87 : decode cX2_told 87 = .ok (.iload_n 1, 1) := by decide +kernel
theorem dX2_told_88 : decode cX2_told 88 = .ok (.iaload, 1) := by decide +kernel
theorem dX2_told_89 : decode cX2_told 89 = .ok (.ireturn, 1) := by decide +kernel
theorem dX2_told_90 : decode cX2_told 90 = .ok (.aload_n 0, 1) := by decide +kernel
theorem dX2_told_91 : decode cX2_told 91 = .ok (.getfield 30, 3) := by decide +kernel
theorem dX2_told_94 : decode cX2_told 94 = .ok (.iload_n 1, 1) := by decide +kernel
theorem dX2_told_95 : decode cX2_told 95 = .ok (.iaload, 1) := by decide +kernel
theorem dX2_told_96 : decode cX2_told 96 = .ok (.ireturn, 1) := by decide +kernel
theorem dX2_told_97 : decode cX2_told 97 = .ok (.aload_n 0, 1) := by decide +kernel
theorem dX2_told_98 : decode cX2_told 98 = .ok (.getfield 33, 3) := by decide +kernel
theorem dX2_told_101 : decode cX2_told 101 = .ok (.iload_n 1, 1) := by decide +kernel
theorem dX2_told_102 : decode cX2_told 102 = .ok (.iaload, 1) := by decide +kernel
theorem dX2_told_103 : decode cX2_told 103 = .ok (.ireturn, 1) := by decide +kernel
theorem dX2_change_0 : decode cX2_change 0 = .ok (.iload_n 2, 1) := by decide +kernel
theorem dX2_change_1 : decode cX2_change 1 = .ok (.tableswitch 57 0 2 #[27, 37, 47], 27) := by decide +kernel
theorem dX2_change_28 : decode cX2_change 28 = .ok (.aload_n 0, 1) := by decide +kernel
theorem dX2_change_29 : decode cX2_change 29 = .ok (.getfield 9, 3) := by decide +kernel
theorem dX2_change_32 : decode cX2_change 32 = .ok (.iload_n 1, 1) := by decide +kernel
theorem dX2_change_33 : decode cX2_change 33 = .ok (.iload_n 3, 1) := by decide +kernel
theorem dX2_change_34 : decode cX2_change 34 = .ok (.iastore, 1) := by decide +kernel
theorem dX2_change_35 : decode cX2_change 35 = .ok (.goto 30, 3) := by decide +kernel
theorem dX2_change_38 : decode cX2_change 38 = .ok (.aload_n 0, 1) := by decide +kernel
theorem dX2_change_39 : decode cX2_change 39 = .ok (.getfield 15, 3) := by decide +kernel
theorem dX2_change_42 : decode cX2_change 42 = .ok (.iload_n 1, 1) := by decide +kernel
theorem dX2_change_43 : decode cX2_change 43 = .ok (.iload_n 3, 1) := by decide +kernel
theorem dX2_change_44 : decode cX2_change 44 = .ok (.iastore, 1) := by decide +kernel
theorem dX2_change_45 : decode cX2_change 45 = .ok (.goto 20, 3) := by decide +kernel
theorem dX2_change_48 : decode cX2_change 48 = .ok (.aload_n 0, 1) := by decide +kernel
theorem dX2_change_49 : decode cX2_change 49 = .ok (.getfield 18, 3) := by decide +kernel
theorem dX2_change_52 : decode cX2_change 52 = .ok (.iload_n 1, 1) := by decide +kernel
theorem dX2_change_53 : decode cX2_change 53 = .ok (.iload_n 3, 1) := by decide +kernel
theorem dX2_change_54 : decode cX2_change 54 = .ok (.iastore, 1) := by decide +kernel
theorem dX2_change_55 : decode cX2_change 55 = .ok (.goto 10, 3) := by decide +kernel
theorem dX2_change_58 : decode cX2_change 58 = .ok (.aload_n 0, 1) := by decide +kernel
theorem dX2_change_59 : decode cX2_change 59 = .ok (.getfield 21, 3) := by decide +kernel
theorem dX2_change_62 : decode cX2_change 62 = .ok (.iload_n 1, 1) := by decide +kernel
theorem dX2_change_63 : decode cX2_change 63 = .ok (.iload_n 3, 1) := by decide +kernel
theorem dX2_change_64 : decode cX2_change 64 = .ok (.iastore, 1) := by decide +kernel
theorem dX2_change_65 : decode cX2_change 65 = .ok (.return_, 1) := by decide +kernel
theorem dX2_canDraw_0 : decode cX2_canDraw 0 = .ok (.aload_n 0, 1) := by decide +kernel
theorem dX2_canDraw_1 : decode cX2_canDraw 1 = .ok (.getfield 21, 3) := by decide +kernel
theorem dX2_canDraw_4 : decode cX2_canDraw 4 = .ok (.iload_n 1, 1) := by decide +kernel
theorem dX2_canDraw_5 : decode cX2_canDraw 5 = .ok (.iaload, 1) := by decide +kernel
theorem dX2_canDraw_6 : decode cX2_canDraw 6 = .ok (.ifCond .ne 5, 3) := by decide +kernel
theorem dX2_canDraw_9 : decode cX2_canDraw 9 = .ok (.iconst 0, 1) := by decide +kernel
theorem dX2_canDraw_10 : decode cX2_canDraw 10 = .ok (.ireturn, 1) := by decide +kernel
theorem dX2_canDraw_11 : decode cX2_canDraw 11 = .ok (.iconst 0, 1) := by decide +kernel
theorem dX2_canDraw_12 : decode cX2_canDraw 12 = .ok (.aload_n 0, 1) := by decide +kernel
theorem dX2_canDraw_13 : decode cX2_canDraw 13 = .ok (.getfield 15, 3) := by decide +kernel
theorem dX2_canDraw_16 : decode cX2_canDraw 16 = .ok (.iload_n 1, 1) := by decide +kernel
theorem dX2_canDraw_17 : decode cX2_canDraw 17 = .ok (.iaload, 1) := by decide +kernel
theorem dX2_canDraw_18 : decode cX2_canDraw 18 = .ok (.aload_n 0, 1) := by decide +kernel
theorem dX2_canDraw_19 : decode cX2_canDraw 19 = .ok (.getfield 24, 3) := by decide +kernel
theorem dX2_canDraw_22 : decode cX2_canDraw 22 = .ok (.iload_n 1, 1) := by decide +kernel
theorem dX2_canDraw_23 : decode cX2_canDraw 23 = .ok (.iaload, 1) := by decide +kernel
theorem dX2_canDraw_24 : decode cX2_canDraw 24 = .ok (.iload_n 2, 1) := by decide +kernel
theorem dX2_canDraw_25 : decode cX2_canDraw 25 = .ok (.iadd, 1) := by decide +kernel
theorem dX2_canDraw_26 : decode cX2_canDraw 26 = .ok (.invokestatic 52, 3) := by decide +kernel
theorem dX2_canDraw_29 : decode cX2_canDraw 29 = .ok (.invokestatic 58, 3) := by decide +kernel
theorem dX2_canDraw_32 : decode cX2_canDraw 32 = .ok (.ireturn, 1) := by decide +kernel
theorem dX2_wantAll_0 : decode cX2_wantAll 0 = .ok (.iconst 0, 1) := by decide +kernel
theorem dX2_wantAll_1 : decode cX2_wantAll 1 = .ok (.istore_n 2, 1) := by decide +kernel
theorem dX2_wantAll_2 : decode cX2_wantAll 2 = .ok (.iload_n 2, 1) := by decide +kernel
theorem dX2_wantAll_3 : decode cX2_wantAll 3 = .ok (.aload_n 0, 1) := by decide +kernel
theorem dX2_wantAll_4 : decode cX2_wantAll 4 = .ok (.getfield 42, 3) := by decide +kernel
theorem dX2_wantAll_7 : decode cX2_wantAll 7 = .ok (.if_icmp .ge 33, 3) := by decide +kernel
theorem dX2_wantAll_10 : decode cX2_wantAll 10 = .ok (.aload_n 0, 1) := by decide +kernel
theorem dX2_wantAll_11 : decode cX2_wantAll 11 = .ok (.getfield 36, 3) := by decide +kernel
theorem dX2_wantAll_14 : decode cX2_wantAll 14 = .ok (.iload_n 2, 1) := by decide +kernel
theorem dX2_wantAll_15 : decode cX2_wantAll 15 = .ok (.aload_n 0, 1) := by decide +kernel
theorem dX2_wantAll_16 : decode cX2_wantAll 16 = .ok (.iload_n 2, 1) := by decide +kernel
theorem dX2_wantAll_17 : decode cX2_wantAll 17 = .ok (.iload_n 1, 1) := by decide +kernel
theorem dX2_wantAll_18 : decode cX2_wantAll 18 = .ok (.invokevirtual 61, 3) := by decide +kernel
theorem dX2_wantAll_21 : decode cX2_wantAll 21 = .ok (.iastore, 1) := by decide +kernel
theorem dX2_wantAll_22 : decode cX2_wantAll 22 = .ok (.aload_n 0, 1) := by decide +kernel
theorem dX2_wantAll_23 : decode cX2_wantAll 23 = .ok (.getfield 39, 3) := by decide +kernel
theorem dX2_wantAll_26 : decode cX2_wantAll 26 = .ok (.iload_n 2, 1) := by decide +kernel
theorem dX2_wantAll_27 : decode cX2_wantAll 27 = .ok (.aload_n 0, 1) := by decide +kernel
theorem dX2_wantAll_28 : decode cX2_wantAll 28 = .ok (.getfield 36, 3) := by decide +kernel
theorem dX2_wantAll_31 : decode cX2_wantAll 31 = .ok (.iload_n 2, 1) := by decide +kernel
theorem dX2_wantAll_32 : decode cX2_wantAll 32 = .ok (.iaload, 1) := by decide +kernel
theorem dX2_wantAll_33 : decode cX2_wantAll 33 = .ok (.iastore, 1) := by decide +kernel
theorem dX2_wantAll_34 : decode cX2_wantAll 34 = .ok (.iinc 2 1, 3) := by decide +kernel
theorem dX2_wantAll_37 : decode cX2_wantAll 37 = .ok (.goto (-35), 3) := by decide +kernel
theorem dX2_wantAll_40 : decode cX2_wantAll 40 = .ok (.return_, 1) := by decide +kernel
theorem dX2_sum_0 : decode cX2_sum 0 = .ok (.iconst 0, 1) := by decide +kernel
theorem dX2_sum_1 : decode cX2_sum 1 = .ok (.istore_n 2, 1) := by decide +kernel
theorem dX2_sum_2 : decode cX2_sum 2 = .ok (.iconst 0, 1) := by decide +kernel
theorem dX2_sum_3 : decode cX2_sum 3 = .ok (.istore_n 3, 1) := by decide +kernel
theorem dX2_sum_4 : decode cX2_sum 4 = .ok (.iload_n 3, 1) := by decide +kernel
theorem dX2_sum_5 : decode cX2_sum 5 = .ok (.aload_n 0, 1) := by decide +kernel
theorem dX2_sum_6 : decode cX2_sum 6 = .ok (.getfield 42, 3) := by decide +kernel
theorem dX2_sum_9 : decode cX2_sum 9 = .ok (.if_icmp .ge 15, 3) := by decide +kernel
theorem dX2_sum_12 : decode cX2_sum 12 = .ok (.iload_n 2, 1) := by decide +kernel
theorem dX2_sum_13 : decode cX2_sum 13 = .ok (.aload_n 1, 1) := by decide +kernel
theorem dX2_sum_14 : decode cX2_sum 14 = .ok (.iload_n 3, 1) := by decide +kernel
theorem dX2_sum_15 : decode cX2_sum 15 = .ok (.iaload, 1) := by decide +kernel
theorem dX2_sum_16 : decode cX2_sum 16 = .ok (.iadd, 1) := by decide +kernel
theorem dX2_sum_17 : decode cX2_sum 17 = .ok (.istore_n 2, 1) := by decide +kernel
theorem dX2_sum_18 : decode cX2_sum 18 = .ok (.iinc 3 1, 3) := by decide +kernel
theorem dX2_sum_21 : decode cX2_sum 21 = .ok (.goto (-17), 3) := by decide +kernel
theorem dX2_sum_24 : decode cX2_sum 24 = .ok (.iload_n 2, 1) := by decide +kernel
theorem dX2_sum_25 : decode cX2_sum 25 = .ok (.ireturn, 1) := by decide +kernel
theorem dX2_sumFrom_0 : decode cX2_sumFrom 0 = .ok (.iconst 0, 1) := by decide +kernel
theorem dX2_sumFrom_1 : decode cX2_sumFrom 1 = .ok (.istore_n 3, 1) := by decide +kernel
theorem dX2_sumFrom_2 : decode cX2_sumFrom 2 = .ok (.iconst 0, 1) := by decide +kernel
theorem dX2_sumFrom_3 : decode cX2_sumFrom 3 = .ok (.istore 4, 2) := by decide +kernel
theorem dX2_sumFrom_5 : decode cX2_sumFrom 5 = .ok (.iload 4, 2) := by decide +kernel
theorem dX2_sumFrom_7 : decode cX2_sumFrom 7 = .ok (.aload_n 0, 1) := by decide +kernel
theorem dX2_sumFrom_8 : decode cX2_sumFrom 8 = .ok (.getfield 42, 3) := by decide +kernel
theorem dX2_sumFrom_11 : decode cX2_sumFrom 11 = .ok (.if_icmp .ge 31, 3) := by decide +kernel
theorem dX2_sumFrom_14 : decode cX2_sumFrom 14 = .ok (.iload_n 3, 1) := by decide +kernel
theorem dX2_sumFrom_15 : decode cX2_sumFrom 15 = .ok (.aload_n 0, 1) := by decide +kernel
theorem dX2_sumFrom_16 : decode cX2_sumFrom 16 = .ok (.getfield 9, 3) := by decide +kernel
theorem dX2_sumFrom_19 : decode cX2_sumFrom 19 = .ok (.iload 4, 2) := by decide +kernel
theorem dX2_sumFrom_21 : decode cX2_sumFrom 21 = .ok (.iaload, 1) := by decide +kernel
theorem dX2_sumFrom_22 : decode cX2_sumFrom 22 = .ok (.iload_n 1, 1) := by decide +kernel
theorem dX2_sumFrom_23 : decode cX2_sumFrom 23 = .ok (.if_icmp .ne 10, 3) := by decide +kernel
theorem dX2_sumFrom_26 : decode cX2_sumFrom 26 = .ok (.aload_n 2, 1) := by decide +kernel
theorem dX2_sumFrom_27 : decode cX2_sumFrom 27 = .ok (.iload 4, 2) := by decide +kernel
theorem dX2_sumFrom_29 : decode cX2_sumFrom 29 = .ok (.iaload, 1) := by decide +kernel
theorem dX2_sumFrom_30 : decode cX2_sumFrom 30 = .ok (.goto 4, 3) := by decide +kernel
theorem dX2_sumFrom_33 : decode cX2_sumFrom 33 = .ok (.iconst 0, 1) := by decide +kernel
theorem dX2_sumFrom_34 : decode cX2_sumFrom 34 = .ok (.iadd, 1) := by decide +kernel
theorem dX2_sumFrom_35 : decode cX2_sumFrom 35 = .ok (.istore_n 3, 1) := by decide +kernel
theorem dX2_sumFrom_36 : decode cX2_sumFrom 36 = .ok (.iinc 4 1, 3) := by decide +kernel
theorem dX2_sumFrom_39 : decode cX2_sumFrom 39 = .ok (.goto (-34), 3) := by decide +kernel
theorem dX2_sumFrom_42 : decode cX2_sumFrom 42 = .ok (.iload_n 3, 1) := by decide +kernel
theorem dX2_sumFrom_43 : decode cX2_sumFrom 43 = .ok (.ireturn, 1) := by decide +kernel
theorem dX2_wantNothing_0 : decode cX2_wantNothing 0 = .ok (.iconst 0, 1) := by decide +kernel
theorem dX2_wantNothing_1 : decode cX2_wantNothing 1 = .ok (.istore_n 2, 1) := by decide +kernel
theorem dX2_wantNothing_2 : decode cX2_wantNothing 2 = .ok (.iload_n 2, 1) := by decide +kernel
theorem dX2_wantNothing_3 : decode cX2_wantNothing 3 = .ok (.aload_n 0, 1) := by decide +kernel
theorem dX2_wantNothing_4 : decode cX2_wantNothing 4 = .ok (.getfield 42, 3) := by decide +kernel
theorem dX2_wantNothing_7 : decode cX2_wantNothing 7 = .ok (.if_icmp .ge 26, 3) := by decide +kernel
theorem dX2_wantNothing_10 : decode cX2_wantNothing 10 = .ok (.aload_n 0, 1) := by decide +kernel
theorem dX2_wantNothing_11 : decode cX2_wantNothing 11 = .ok (.getfield 9, 3) := by decide +kernel
theorem dX2_wantNothing_14 : decode cX2_wantNothing 14 = .ok (.iload_n 2, 1) := by decide +kernel
theorem dX2_wantNothing_15 : decode cX2_wantNothing 15 = .ok (.iaload, 1) := by decide +kernel
theorem dX2_wantNothing_16 : decode cX2_wantNothing 16 = .ok (.iload_n 1, 1) := by decide +kernel
theorem dX2_wantNothing_17 : decode cX2_wantNothing 17 = .ok (.if_icmp .ne 10, 3) := by decide +kernel
theorem dX2_wantNothing_20 : decode cX2_wantNothing 20 = .ok (.aload_n 0, 1) := by decide +kernel
theorem dX2_wantNothing_21 : decode cX2_wantNothing 21 = .ok (.getfield 39, 3) := by decide +kernel
theorem dX2_wantNothing_24 : decode cX2_wantNothing 24 = .ok (.iload_n 2, 1) := by decide +kernel
theorem dX2_wantNothing_25 : decode cX2_wantNothing 25 = .ok (.iconst 0, 1) := by decide +kernel
theorem dX2_wantNothing_26 : decode cX2_wantNothing 26 = .ok (.iastore, 1) := by decide +kernel
theorem dX2_wantNothing_27 : decode cX2_wantNothing 27 = .ok (.iinc 2 1, 3) := by decide +kernel
theorem dX2_wantNothing_30 : decode cX2_wantNothing 30 = .ok (.goto (-28), 3) := by decide +kernel
theorem dX2_wantNothing_33 : decode cX2_wantNothing 33 = .ok (.return_, 1) := by decide +kernel
theorem dX2_receive_0 : decode cX2_receive 0 = .ok (.aload_n 0, 1) := by decide +kernel
theorem dX2_receive_1 : decode cX2_receive 1 = .ok (.getfield 27, 3) := by decide +kernel
theorem dX2_receive_4 : decode cX2_receive 4 = .ok (.iload_n 1, 1) := by decide +kernel
theorem dX2_receive_5 : decode cX2_receive 5 = .ok (.iload_n 2, 1) := by decide +kernel
theorem dX2_receive_6 : decode cX2_receive 6 = .ok (.iastore, 1) := by decide +kernel
theorem dX2_receive_7 : decode cX2_receive 7 = .ok (.aload_n 0, 1) := by decide +kernel
theorem dX2_receive_8 : decode cX2_receive 8 = .ok (.getfield 33, 3) := by decide +kernel
theorem dX2_receive_11 : decode cX2_receive 11 = .ok (.iload_n 1, 1) := by decide +kernel
theorem dX2_receive_12 : decode cX2_receive 12 = .ok (.dup2, 1) := by decide +kernel
theorem dX2_receive_13 : decode cX2_receive 13 = .ok (.iaload, 1) := by decide +kernel
theorem dX2_receive_14 : decode cX2_receive 14 = .ok (.iload_n 2, 1) := by decide +kernel
theorem dX2_receive_15 : decode cX2_receive 15 = .ok (.iadd, 1) := by decide +kernel
theorem dX2_receive_16 : decode cX2_receive 16 = .ok (.iastore, 1) := by decide +kernel
theorem dX2_receive_17 : decode cX2_receive 17 = .ok (.aload_n 0, 1) := by decide +kernel
theorem dX2_receive_18 : decode cX2_receive 18 = .ok (.getfield 24, 3) := by decide +kernel
theorem dX2_receive_21 : decode cX2_receive 21 = .ok (.iload_n 1, 1) := by decide +kernel
theorem dX2_receive_22 : decode cX2_receive 22 = .ok (.dup2, 1) := by decide +kernel
theorem dX2_receive_23 : decode cX2_receive 23 = .ok (.iaload, 1) := by decide +kernel
theorem dX2_receive_24 : decode cX2_receive 24 = .ok (.iload_n 2, 1) := by decide +kernel
theorem dX2_receive_25 : decode cX2_receive 25 = .ok (.isub, 1) := by decide +kernel
theorem dX2_receive_26 : decode cX2_receive 26 = .ok (.iastore, 1) := by decide +kernel
theorem dX2_receive_27 : decode cX2_receive 27 = .ok (.aload_n 0, 1) := by decide +kernel
theorem dX2_receive_28 : decode cX2_receive 28 = .ok (.getfield 30, 3) := by decide +kernel
theorem dX2_receive_31 : decode cX2_receive 31 = .ok (.iload_n 1, 1) := by decide +kernel
theorem dX2_receive_32 : decode cX2_receive 32 = .ok (.aload_n 0, 1) := by decide +kernel
theorem dX2_receive_33 : decode cX2_receive 33 = .ok (.iload_n 1, 1) := by decide +kernel
theorem dX2_receive_34 : decode cX2_receive 34 = .ok (.iload_n 3, 1) := by decide +kernel
theorem dX2_receive_35 : decode cX2_receive 35 = .ok (.invokevirtual 64, 3) := by decide +kernel
theorem dX2_receive_38 : decode cX2_receive 38 = .ok (.iastore, 1) := by decide +kernel
theorem dX2_receive_39 : decode cX2_receive 39 = .ok (.return_, 1) := by decide +kernel
theorem dX2_reasonOf_0 : decode cX2_reasonOf 0 = .ok (.aload_n 0, 1) := by decide +kernel
theorem dX2_reasonOf_1 : decode cX2_reasonOf 1 = .ok (.getfield 27, 3) := by decide +kernel
theorem dX2_reasonOf_4 : decode cX2_reasonOf 4 = .ok (.iload_n 1, 1) := by decide +kernel
theorem dX2_reasonOf_5 : decode cX2_reasonOf 5 = .ok (.iaload, 1) := by decide +kernel
theorem dX2_reasonOf_6 : decode cX2_reasonOf 6 = .ok (.aload_n 0, 1) := by decide +kernel
theorem dX2_reasonOf_7 : decode cX2_reasonOf 7 = .ok (.getfield 15, 3) := by decide +kernel
theorem dX2_reasonOf_10 : decode cX2_reasonOf 10 = .ok (.iload_n 1, 1) := by decide +kernel
theorem dX2_reasonOf_11 : decode cX2_reasonOf 11 = .ok (.iaload, 1) := by decide +kernel
theorem dX2_reasonOf_12 : decode cX2_reasonOf 12 = .ok (.if_icmp .ne 5, 3) := by decide +kernel
theorem dX2_reasonOf_15 : decode cX2_reasonOf 15 = .ok (.iconst 0, 1) := by decide +kernel
theorem dX2_reasonOf_16 : decode cX2_reasonOf 16 = .ok (.ireturn, 1) := by decide +kernel
theorem dX2_reasonOf_17 : decode cX2_reasonOf 17 = .ok (.aload_n 0, 1) := by decide +kernel
theorem dX2_reasonOf_18 : decode cX2_reasonOf 18 = .ok (.getfield 21, 3) := by decide +kernel
theorem dX2_reasonOf_21 : decode cX2_reasonOf 21 = .ok (.iload_n 1, 1) := by decide +kernel
theorem dX2_reasonOf_22 : decode cX2_reasonOf 22 = .ok (.iaload, 1) := by decide +kernel
theorem dX2_reasonOf_23 : decode cX2_reasonOf 23 = .ok (.ifCond .ne 5, 3) := by decide +kernel
theorem dX2_reasonOf_26 : decode cX2_reasonOf 26 = .ok (.iconst 1, 1) := by decide +kernel
theorem dX2_reasonOf_27 : decode cX2_reasonOf 27 = .ok (.ireturn, 1) := by decide +kernel
theorem dX2_reasonOf_28 : decode cX2_reasonOf 28 = .ok (.aload_n 0, 1) := by decide +kernel
theorem dX2_reasonOf_29 : decode cX2_reasonOf 29 = .ok (.getfield 36, 3) := by decide +kernel
theorem dX2_reasonOf_32 : decode cX2_reasonOf 32 = .ok (.iload_n 1, 1) := by decide +kernel
theorem dX2_reasonOf_33 : decode cX2_reasonOf 33 = .ok (.iaload, 1) := by decide +kernel
theorem dX2_reasonOf_34 : decode cX2_reasonOf 34 = .ok (.aload_n 0, 1) := by decide +kernel
theorem dX2_reasonOf_35 : decode cX2_reasonOf 35 = .ok (.getfield 15, 3) := by decide +kernel
theorem dX2_reasonOf_38 : decode cX2_reasonOf 38 = .ok (.iload_n 1, 1) := by decide +kernel
theorem dX2_reasonOf_39 : decode cX2_reasonOf 39 = .ok (.iaload, 1) := by decide +kernel
theorem dX2_reasonOf_40 : decode cX2_reasonOf 40 = .ok (.if_icmp .ge 5, 3) := by decide +kernel
theorem dX2_reasonOf_43 : decode cX2_reasonOf 43 = .ok (.iconst 2, 1) := by decide +kernel
theorem dX2_reasonOf_44 : decode cX2_reasonOf 44 = .ok (.ireturn, 1) := by decide +kernel
theorem dX2_reasonOf_45 : decode cX2_reasonOf 45 = .ok (.iload_n 2, 1) := by decide +kernel
theorem dX2_reasonOf_46 : decode cX2_reasonOf 46 = .ok (.ifCond .eq 7, 3) := by decide +kernel
theorem dX2_reasonOf_49 : decode cX2_reasonOf 49 = .ok (.iconst 3, 1) := by decide +kernel
theorem dX2_reasonOf_50 : decode cX2_reasonOf 50 = .ok (.goto 4, 3) := by decide +kernel
theorem dX2_reasonOf_53 : decode cX2_reasonOf 53 = .ok (.iconst 4, 1) := by decide +kernel
theorem dX2_reasonOf_54 : decode cX2_reasonOf 54 = .ok (.ireturn, 1) := by decide +kernel
theorem dX2_unmet_0 : decode cX2_unmet 0 = .ok (.iconst 0, 1) := by decide +kernel
theorem dX2_unmet_1 : decode cX2_unmet 1 = .ok (.istore_n 1, 1) := by decide +kernel
theorem dX2_unmet_2 : decode cX2_unmet 2 = .ok (.iconst 0, 1) := by decide +kernel
theorem dX2_unmet_3 : decode cX2_unmet 3 = .ok (.istore_n 2, 1) := by decide +kernel
theorem dX2_unmet_4 : decode cX2_unmet 4 = .ok (.iload_n 2, 1) := by decide +kernel
theorem dX2_unmet_5 : decode cX2_unmet 5 = .ok (.aload_n 0, 1) := by decide +kernel
theorem dX2_unmet_6 : decode cX2_unmet 6 = .ok (.getfield 42, 3) := by decide +kernel
theorem dX2_unmet_9 : decode cX2_unmet 9 = .ok (.if_icmp .ge 32, 3) := by decide +kernel
theorem dX2_unmet_12 : decode cX2_unmet 12 = .ok (.iload_n 1, 1) := by decide +kernel
theorem dX2_unmet_13 : decode cX2_unmet 13 = .ok (.aload_n 0, 1) := by decide +kernel
theorem dX2_unmet_14 : decode cX2_unmet 14 = .ok (.getfield 27, 3) := by decide +kernel
theorem dX2_unmet_17 : decode cX2_unmet 17 = .ok (.iload_n 2, 1) := by decide +kernel
theorem dX2_unmet_18 : decode cX2_unmet 18 = .ok (.iaload, 1) := by decide +kernel
theorem dX2_unmet_19 : decode cX2_unmet 19 = .ok (.aload_n 0, 1) := by decide +kernel
theorem dX2_unmet_20 : decode cX2_unmet 20 = .ok (.getfield 15, 3) := by decide +kernel
theorem dX2_unmet_23 : decode cX2_unmet 23 = .ok (.iload_n 2, 1) := by decide +kernel
theorem dX2_unmet_24 : decode cX2_unmet 24 = .ok (.iaload, 1) := by decide +kernel
theorem dX2_unmet_25 : decode cX2_unmet 25 = .ok (.if_icmp .ge 7, 3) := by decide +kernel
theorem dX2_unmet_28 : decode cX2_unmet 28 = .ok (.iconst 1, 1) := by decide +kernel
theorem dX2_unmet_29 : decode cX2_unmet 29 = .ok (.goto 4, 3) := by decide +kernel
theorem dX2_unmet_32 : decode cX2_unmet 32 = .ok (.iconst 0, 1) := by decide +kernel
theorem dX2_unmet_33 : decode cX2_unmet 33 = .ok (.iadd, 1) := by decide +kernel
theorem dX2_unmet_34 : decode cX2_unmet 34 = .ok (.istore_n 1, 1) := by decide +kernel
theorem dX2_unmet_35 : decode cX2_unmet 35 = .ok (.iinc 2 1, 3) := by decide +kernel
theorem dX2_unmet_38 : decode cX2_unmet 38 = .ok (.goto (-34), 3) := by decide +kernel
theorem dX2_unmet_41 : decode cX2_unmet 41 = .ok (.iload_n 1, 1) := by decide +kernel
theorem dX2_unmet_42 : decode cX2_unmet 42 = .ok (.ireturn, 1) := by decide +kernel
theorem dX2_overdrawn_0 : decode cX2_overdrawn 0 = .ok (.iconst 0, 1) := by decide +kernel
theorem dX2_overdrawn_1 : decode cX2_overdrawn 1 = .ok (.istore_n 1, 1) := by decide +kernel
theorem dX2_overdrawn_2 : decode cX2_overdrawn 2 = .ok (.iconst 0, 1) := by decide +kernel
theorem dX2_overdrawn_3 : decode cX2_overdrawn 3 = .ok (.istore_n 2, 1) := by decide +kernel
theorem dX2_overdrawn_4 : decode cX2_overdrawn 4 = .ok (.iload_n 2, 1) := by decide +kernel
theorem dX2_overdrawn_5 : decode cX2_overdrawn 5 = .ok (.aload_n 0, 1) := by decide +kernel
theorem dX2_overdrawn_6 : decode cX2_overdrawn 6 = .ok (.getfield 42, 3) := by decide +kernel
theorem dX2_overdrawn_9 : decode cX2_overdrawn 9 = .ok (.if_icmp .ge 26, 3) := by decide +kernel
theorem dX2_overdrawn_12 : decode cX2_overdrawn 12 = .ok (.iload_n 1, 1) := by decide +kernel
theorem dX2_overdrawn_13 : decode cX2_overdrawn 13 = .ok (.aload_n 0, 1) := by decide +kernel
theorem dX2_overdrawn_14 : decode cX2_overdrawn 14 = .ok (.getfield 24, 3) := by decide +kernel
theorem dX2_overdrawn_17 : decode cX2_overdrawn 17 = .ok (.iload_n 2, 1) := by decide +kernel
theorem dX2_overdrawn_18 : decode cX2_overdrawn 18 = .ok (.iaload, 1) := by decide +kernel
theorem dX2_overdrawn_19 : decode cX2_overdrawn 19 = .ok (.ifCond .ge 7, 3) := by decide +kernel
theorem dX2_overdrawn_22 : decode cX2_overdrawn 22 = .ok (.iconst 1, 1) := by decide +kernel
theorem dX2_overdrawn_23 : decode cX2_overdrawn 23 = .ok (.goto 4, 3) := by decide +kernel
theorem dX2_overdrawn_26 : decode cX2_overdrawn 26 = .ok (.iconst 0, 1) := by decide +kernel
theorem dX2_overdrawn_27 : decode cX2_overdrawn 27 = .ok (.iadd, 1) := by decide +kernel
theorem dX2_overdrawn_28 : decode cX2_overdrawn 28 = .ok (.istore_n 1, 1) := by decide +kernel
theorem dX2_overdrawn_29 : decode cX2_overdrawn 29 = .ok (.iinc 2 1, 3) := by decide +kernel
theorem dX2_overdrawn_32 : decode cX2_overdrawn 32 = .ok (.goto (-28), 3) := by decide +kernel
theorem dX2_overdrawn_35 : decode cX2_overdrawn 35 = .ok (.iload_n 1, 1) := by decide +kernel
theorem dX2_overdrawn_36 : decode cX2_overdrawn 36 = .ok (.ireturn, 1) := by decide +kernel
theorem dX2_sizeOf_0 : decode cX2_sizeOf 0 = .ok (.iconst 0, 1) := by decide +kernel
theorem dX2_sizeOf_1 : decode cX2_sizeOf 1 = .ok (.istore_n 2, 1) := by decide +kernel
theorem dX2_sizeOf_2 : decode cX2_sizeOf 2 = .ok (.iconst 0, 1) := by decide +kernel
theorem dX2_sizeOf_3 : decode cX2_sizeOf 3 = .ok (.istore_n 3, 1) := by decide +kernel
theorem dX2_sizeOf_4 : decode cX2_sizeOf 4 = .ok (.iload_n 3, 1) := by decide +kernel
theorem dX2_sizeOf_5 : decode cX2_sizeOf 5 = .ok (.aload_n 0, 1) := by decide +kernel
theorem dX2_sizeOf_6 : decode cX2_sizeOf 6 = .ok (.getfield 42, 3) := by decide +kernel
theorem dX2_sizeOf_9 : decode cX2_sizeOf 9 = .ok (.if_icmp .ge 27, 3) := by decide +kernel
theorem dX2_sizeOf_12 : decode cX2_sizeOf 12 = .ok (.iload_n 2, 1) := by decide +kernel
theorem dX2_sizeOf_13 : decode cX2_sizeOf 13 = .ok (.aload_n 0, 1) := by decide +kernel
theorem dX2_sizeOf_14 : decode cX2_sizeOf 14 = .ok (.getfield 9, 3) := by decide +kernel
theorem dX2_sizeOf_17 : decode cX2_sizeOf 17 = .ok (.iload_n 3, 1) := by decide +kernel
theorem dX2_sizeOf_18 : decode cX2_sizeOf 18 = .ok (.iaload, 1) := by decide +kernel
theorem dX2_sizeOf_19 : decode cX2_sizeOf 19 = .ok (.iload_n 1, 1) := by decide +kernel
theorem dX2_sizeOf_20 : decode cX2_sizeOf 20 = .ok (.if_icmp .ne 7, 3) := by decide +kernel
theorem dX2_sizeOf_23 : decode cX2_sizeOf 23 = .ok (.iconst 1, 1) := by decide +kernel
theorem dX2_sizeOf_24 : decode cX2_sizeOf 24 = .ok (.goto 4, 3) := by decide +kernel
theorem dX2_sizeOf_27 : decode cX2_sizeOf 27 = .ok (.iconst 0, 1) := by decide +kernel
theorem dX2_sizeOf_28 : decode cX2_sizeOf 28 = .ok (.iadd, 1) := by decide +kernel
theorem dX2_sizeOf_29 : decode cX2_sizeOf 29 = .ok (.istore_n 2, 1) := by decide +kernel
theorem dX2_sizeOf_30 : decode cX2_sizeOf 30 = .ok (.iinc 3 1, 3) := by decide +kernel
theorem dX2_sizeOf_33 : decode cX2_sizeOf 33 = .ok (.goto (-29), 3) := by decide +kernel
theorem dX2_sizeOf_36 : decode cX2_sizeOf 36 = .ok (.iload_n 2, 1) := by decide +kernel
theorem dX2_sizeOf_37 : decode cX2_sizeOf 37 = .ok (.ireturn, 1) := by decide +kernel
theorem dX2_drawnFrom_0 : decode cX2_drawnFrom 0 = .ok (.iconst 0, 1) := by decide +kernel
theorem dX2_drawnFrom_1 : decode cX2_drawnFrom 1 = .ok (.istore_n 3, 1) := by decide +kernel
theorem dX2_drawnFrom_2 : decode cX2_drawnFrom 2 = .ok (.iconst 0, 1) := by decide +kernel
theorem dX2_drawnFrom_3 : decode cX2_drawnFrom 3 = .ok (.istore 4, 2) := by decide +kernel
theorem dX2_drawnFrom_5 : decode cX2_drawnFrom 5 = .ok (.iload 4, 2) := by decide +kernel
theorem dX2_drawnFrom_7 : decode cX2_drawnFrom 7 = .ok (.aload_n 0, 1) := by decide +kernel
theorem dX2_drawnFrom_8 : decode cX2_drawnFrom 8 = .ok (.getfield 42, 3) := by decide +kernel
theorem dX2_drawnFrom_11 : decode cX2_drawnFrom 11 = .ok (.if_icmp .ge 34, 3) := by decide +kernel
theorem dX2_drawnFrom_14 : decode cX2_drawnFrom 14 = .ok (.iload_n 3, 1) := by decide +kernel
theorem dX2_drawnFrom_15 : decode cX2_drawnFrom 15 = .ok (.aload_n 0, 1) := by decide +kernel
theorem dX2_drawnFrom_16 : decode cX2_drawnFrom 16 = .ok (.getfield 9, 3) := by decide +kernel
theorem dX2_drawnFrom_19 : decode cX2_drawnFrom 19 = .ok (.iload 4, 2) := by decide +kernel
theorem dX2_drawnFrom_21 : decode cX2_drawnFrom 21 = .ok (.iaload, 1) := by decide +kernel
theorem dX2_drawnFrom_22 : decode cX2_drawnFrom 22 = .ok (.iload_n 1, 1) := by decide +kernel
theorem dX2_drawnFrom_23 : decode cX2_drawnFrom 23 = .ok (.if_icmp .ne 13, 3) := by decide +kernel
theorem dX2_drawnFrom_26 : decode cX2_drawnFrom 26 = .ok (.aload_n 0, 1) := by decide +kernel
theorem dX2_drawnFrom_27 : decode cX2_drawnFrom 27 = .ok (.iload 4, 2) := by decide +kernel
theorem dX2_drawnFrom_29 : decode cX2_drawnFrom 29 = .ok (.iload_n 2, 1) := by decide +kernel
theorem dX2_drawnFrom_30 : decode cX2_drawnFrom 30 = .ok (.invokevirtual 61, 3) := by decide +kernel
theorem dX2_drawnFrom_33 : decode cX2_drawnFrom 33 = .ok (.goto 4, 3) := by decide +kernel
theorem dX2_drawnFrom_36 : decode cX2_drawnFrom 36 = .ok (.iconst 0, 1) := by decide +kernel
theorem dX2_drawnFrom_37 : decode cX2_drawnFrom 37 = .ok (.iadd, 1) := by decide +kernel
theorem dX2_drawnFrom_38 : decode cX2_drawnFrom 38 = .ok (.istore_n 3, 1) := by decide +kernel
theorem dX2_drawnFrom_39 : decode cX2_drawnFrom 39 = .ok (.iinc 4 1, 3) := by decide +kernel
theorem dX2_drawnFrom_42 : decode cX2_drawnFrom 42 = .ok (.goto (-37), 3) := by decide +kernel
theorem dX2_drawnFrom_45 : decode cX2_drawnFrom 45 = .ok (.iload_n 3, 1) := by decide +kernel
theorem dX2_drawnFrom_46 : decode cX2_drawnFrom 46 = .ok (.ireturn, 1) := by decide +kernel
theorem dX3_init_0 : decode cX3_init 0 = .ok (.aload_n 0, 1) := by decide +kernel
theorem dX3_init_1 : decode cX3_init 1 = .ok (.invokespecial 3, 3) := by decide +kernel
theorem dX3_init_4 : decode cX3_init 4 = .ok (.aload_n 0, 1) := by decide +kernel
theorem dX3_init_5 : decode cX3_init 5 = .ok (.bipush 60, 2) := by decide +kernel
theorem dX3_init_7 : decode cX3_init 7 = .ok (.newarray .int, 2) := by decide +kernel
theorem dX3_init_9 : decode cX3_init 9 = .ok (.putfield 9, 3) := by decide +kernel
theorem dX3_init_12 : decode cX3_init 12 = .ok (.aload_n 0, 1) := by decide +kernel
theorem dX3_init_13 : decode cX3_init 13 = .ok (.bipush 48, 2) := by decide +kernel
theorem dX3_init_15 : decode cX3_init 15 = .ok (.newarray .int, 2) := by decide +kernel
theorem dX3_init_17 : decode cX3_init 17 = .ok (.putfield 15, 3) := by decide +kernel
theorem dX3_init_20 : decode cX3_init 20 = .ok (.return_, 1) := by decide +kernel
theorem dX3_append_0 : decode cX3_append 0 = .ok (.aload_n 0, 1) := by decide +kernel
theorem dX3_append_1 : decode cX3_append 1 = .ok (.getfield 9, 3) := by decide +kernel
theorem dX3_append_4 : decode cX3_append 4 = .ok (.aload_n 0, 1) := by decide +kernel
theorem dX3_append_5 : decode cX3_append 5 = .ok (.getfield 18, 3) := by decide +kernel
theorem dX3_append_8 : decode cX3_append 8 = .ok (.iload_n 1, 1) := by decide +kernel
theorem dX3_append_9 : decode cX3_append 9 = .ok (.iastore, 1) := by decide +kernel
theorem dX3_append_10 : decode cX3_append 10 = .ok (.aload_n 0, 1) := by decide +kernel
theorem dX3_append_11 : decode cX3_append 11 = .ok (.dup, 1) := by decide +kernel
theorem dX3_append_12 : decode cX3_append 12 = .ok (.getfield 18, 3) := by decide +kernel
theorem dX3_append_15 : decode cX3_append 15 = .ok (.iconst 1, 1) := by decide +kernel
theorem dX3_append_16 : decode cX3_append 16 = .ok (.iadd, 1) := by decide +kernel
theorem dX3_append_17 : decode cX3_append 17 = .ok (.putfield 18, 3) := by decide +kernel
theorem dX3_append_20 : decode cX3_append 20 = .ok (.return_, 1) := by decide +kernel
theorem dX3_firstFault_0 : decode cX3_firstFault 0 = .ok (.aload_n 0, 1) := by decide +kernel
theorem dX3_firstFault_1 : decode cX3_firstFault 1 = .ok (.iconst 0, 1) := by decide +kernel
theorem dX3_firstFault_2 : decode cX3_firstFault 2 = .ok (.putfield 22, 3) := by decide +kernel
theorem dX3_firstFault_5 : decode cX3_firstFault 5 = .ok (.iconst 0, 1) := by decide +kernel
theorem dX3_firstFault_6 : decode cX3_firstFault 6 = .ok (.istore_n 1, 1) := by decide +kernel
theorem dX3_firstFault_7 : decode cX3_firstFault 7 = .ok (.iconst 0, 1) := by decide +kernel
theorem dX3_firstFault_8 : decode cX3_firstFault 8 = .ok (.istore_n 2, 1) := by decide +kernel
theorem dX3_firstFault_9 : decode cX3_firstFault 9 = .ok (.iload_n 2, 1) := by decide +kernel
theorem dX3_firstFault_10 : decode cX3_firstFault 10 = .ok (.aload_n 0, 1) := by decide +kernel
theorem dX3_firstFault_11 : decode cX3_firstFault 11 = .ok (.getfield 18, 3) := by decide +kernel
theorem dX3_firstFault_14 : decode cX3_firstFault 14 = .ok (.if_icmp .ge 28, 3) := by decide +kernel
theorem dX3_firstFault_17 : decode cX3_firstFault 17 = .ok (.aload_n 0, 1) := by decide +kernel
theorem dX3_firstFault_18 : decode cX3_firstFault 18 = .ok (.iload_n 1, 1) := by decide +kernel
theorem dX3_firstFault_19 : decode cX3_firstFault 19 = .ok (.aload_n 0, 1) := by decide +kernel
theorem dX3_firstFault_20 : decode cX3_firstFault 20 = .ok (.getfield 9, 3) := by decide +kernel
theorem dX3_firstFault_23 : decode cX3_firstFault 23 = .ok (.iload_n 2, 1) := by decide +kernel
theorem dX3_firstFault_24 : decode cX3_firstFault 24 = .ok (.iaload, 1) := by decide +kernel
theorem dX3_firstFault_25 : decode cX3_firstFault 25 = .ok (.invokevirtual 25, 3) := by decide +kernel
theorem dX3_firstFault_28 : decode cX3_firstFault 28 = .ok (.istore_n 1, 1) := by decide +kernel
theorem dX3_firstFault_29 : decode cX3_firstFault 29 = .ok (.iload_n 1, 1) := by decide +kernel
theorem dX3_firstFault_30 : decode cX3_firstFault 30 = .ok (.iconst 4, 1) := by decide +kernel
theorem dX3_firstFault_31 : decode cX3_firstFault 31 = .ok (.if_icmp .ne 5, 3) := by decide +kernel
theorem dX3_firstFault_34 : decode cX3_firstFault 34 = .ok (.iload_n 2, 1) := by decide +kernel
theorem dX3_firstFault_35 : decode cX3_firstFault 35 = .ok (.ireturn, 1) := by decide +kernel
theorem dX3_firstFault_36 : decode cX3_firstFault 36 = .ok (.iinc 2 1, 3) := by decide +kernel
theorem dX3_firstFault_39 : decode cX3_firstFault 39 = .ok (.goto (-30), 3) := by decide +kernel
theorem dX3_firstFault_42 : decode cX3_firstFault 42 = .ok (.aload_n 0, 1) := by decide +kernel
theorem dX3_firstFault_43 : decode cX3_firstFault 43 = .ok (.iload_n 1, 1) := by decide +kernel
theorem dX3_firstFault_44 : decode cX3_firstFault 44 = .ok (.invokevirtual 29, 3) := by decide +kernel
theorem dX3_firstFault_47 : decode cX3_firstFault 47 = .ok (.ifCond .ne 8, 3) := by decide +kernel
theorem dX3_firstFault_50 : decode cX3_firstFault 50 = .ok (.aload_n 0, 1) := by decide +kernel
theorem dX3_firstFault_51 : decode cX3_firstFault 51 = .ok (.getfield 18, 3) := by decide +kernel
theorem dX3_firstFault_54 : decode cX3_firstFault 54 = .ok (.ireturn, 1) := by decide +kernel
theorem dX3_firstFault_55 : decode cX3_firstFault 55 = .ok (.aload_n 0, 1) := by decide +kernel
theorem dX3_firstFault_56 : decode cX3_firstFault 56 = .ok (.iload_n 1, 1) := by decide +kernel
theorem dX3_firstFault_57 : decode cX3_firstFault 57 = .ok (.invokevirtual 33, 3) := by decide +kernel
theorem dX3_firstFault_60 : decode cX3_firstFault 60 = .ok (.pop, 1) := by decide +kernel
theorem dX3_firstFault_61 : decode cX3_firstFault 61 = .ok (.ldc 37, 2) := by decide +kernel
theorem dX3_firstFault_63 : decode cX3_firstFault 63 = .ok (.ireturn, 1) := by decide +kernel
theorem dX3_next_0 : decode cX3_next 0 = .ok (.iload_n 1, 1) := by decide +kernel
theorem dX3_next_1 : decode cX3_next 1 = .ok (.tableswitch 45 0 2 #[27, 33, 39], 27) := by decide +kernel
theorem dX3_next_28 : decode cX3_next 28 = .ok (.aload_n 0, 1) := by decide +kernel
theorem dX3_next_29 : decode cX3_next 29 = .ok (.iload_n 2, 1) := by decide +kernel
theorem dX3_next_30 : decode cX3_next 30 = .ok (.invokevirtual 38, 3) := by decide +kernel
theorem dX3_next_33 : decode cX3_next 33 = .ok (.ireturn, 1) := by decide +kernel
theorem dX3_next_34 : decode cX3_next 34 = .ok (.aload_n 0, 1) := by decide +kernel
theorem dX3_next_35 : decode cX3_next 35 = .ok (.iload_n 2, 1) := by decide +kernel
theorem dX3_next_36 : decode cX3_next 36 = .ok (.invokevirtual 41, 3) := by decide +kernel
theorem dX3_next_39 : decode cX3_next 39 = .ok (.ireturn, 1) := by decide +kernel
theorem dX3_next_40 : decode cX3_next 40 = .ok (.aload_n 0, 1) := by decide +kernel
theorem dX3_next_41 : decode cX3_next 41 = .ok (.iload_n 2, 1) := by decide +kernel
theorem dX3_next_42 : decode cX3_next 42 = .ok (.invokevirtual 44, 3) := by decide +kernel
theorem dX3_next_45 : decode cX3_next 45 = .ok (.ireturn, 1) := by decide +kernel
theorem dX3_next_46 : decode cX3_next 46 = .ok (.aload_n 0, 1) := by decide +kernel
theorem dX3_next_47 : decode cX3_next 47 = .ok (.iload_n 2, 1) := by decide +kernel
theorem dX3_next_48 : decode cX3_next 48 = .ok (.invokevirtual 47, 3) := by decide +kernel
theorem dX3_next_51 : decode cX3_next 51 = .ok (.ireturn, 1) := by decide +kernel
theorem dX3_isDigit_0 : decode cX3_isDigit 0 = .ok (.iload_n 0, 1) := by decide +kernel
theorem dX3_isDigit_1 : decode cX3_isDigit 1 = .ok (.bipush 48, 2) := by decide +kernel
theorem dX3_isDigit_3 : decode cX3_isDigit 3 = .ok (.if_icmp .lt 13, 3) := by decide +kernel
theorem dX3_isDigit_6 : decode cX3_isDigit 6 = .ok (.iload_n 0, 1) := by decide +kernel
theorem dX3_isDigit_7 : decode cX3_isDigit 7 = .ok (.bipush 57, 2) := by decide +kernel
theorem dX3_isDigit_9 : decode cX3_isDigit 9 = .ok (.if_icmp .gt 7, 3) := by decide +kernel
theorem dX3_isDigit_12 : decode cX3_isDigit 12 = .ok (.iconst 1, 1) := by decide +kernel
theorem dX3_isDigit_13 : decode cX3_isDigit 13 = .ok (.goto 4, 3) := by decide +kernel
theorem dX3_isDigit_16 : decode cX3_isDigit 16 = .ok (.iconst 0, 1) := by decide +kernel
theorem dX3_isDigit_17 : decode cX3_isDigit 17 = .ok (.ireturn, 1) := by decide +kernel
theorem dX3_beginNumber_0 : decode cX3_beginNumber 0 = .ok (.iload_n 1, 1) := by decide +kernel
theorem dX3_beginNumber_1 : decode cX3_beginNumber 1 = .ok (.invokestatic 50, 3) := by decide +kernel
theorem dX3_beginNumber_4 : decode cX3_beginNumber 4 = .ok (.ifCond .ne 5, 3) := by decide +kernel
theorem dX3_beginNumber_7 : decode cX3_beginNumber 7 = .ok (.iconst 4, 1) := by decide +kernel
theorem dX3_beginNumber_8 : decode cX3_beginNumber 8 = .ok (.ireturn, 1) := by decide +kernel
theorem dX3_beginNumber_9 : decode cX3_beginNumber 9 = .ok (.aload_n 0, 1) := by decide +kernel
theorem dX3_beginNumber_10 : decode cX3_beginNumber 10 = .ok (.iload_n 1, 1) := by decide +kernel
theorem dX3_beginNumber_11 : decode cX3_beginNumber 11 = .ok (.bipush 48, 2) := by decide +kernel
theorem dX3_beginNumber_13 : decode cX3_beginNumber 13 = .ok (.isub, 1) := by decide +kernel
theorem dX3_beginNumber_14 : decode cX3_beginNumber 14 = .ok (.putfield 53, 3) := by decide +kernel
theorem dX3_beginNumber_17 : decode cX3_beginNumber 17 = .ok (.iconst 1, 1) := by decide +kernel
theorem dX3_beginNumber_18 : decode cX3_beginNumber 18 = .ok (.ireturn, 1) := by decide +kernel
theorem dX3_inNumber_0 : decode cX3_inNumber 0 = .ok (.iload_n 1, 1) := by decide +kernel
theorem dX3_inNumber_1 : decode cX3_inNumber 1 = .ok (.bipush 44, 2) := by decide +kernel
theorem dX3_inNumber_3 : decode cX3_inNumber 3 = .ok (.if_icmp .ne 24, 3) := by decide +kernel
theorem dX3_inNumber_6 : decode cX3_inNumber 6 = .ok (.aload_n 0, 1) := by decide +kernel
theorem dX3_inNumber_7 : decode cX3_inNumber 7 = .ok (.getfield 22, 3) := by decide +kernel
theorem dX3_inNumber_10 : decode cX3_inNumber 10 = .ok (.iconst 1, 1) := by decide +kernel
theorem dX3_inNumber_11 : decode cX3_inNumber 11 = .ok (.iadd, 1) := by decide +kernel
theorem dX3_inNumber_12 : decode cX3_inNumber 12 = .ok (.bipush 48, 2) := by decide +kernel
theorem dX3_inNumber_14 : decode cX3_inNumber 14 = .ok (.if_icmp .ge 11, 3) := by decide +kernel
theorem dX3_inNumber_17 : decode cX3_inNumber 17 = .ok (.aload_n 0, 1) := by decide +kernel
theorem dX3_inNumber_18 : decode cX3_inNumber 18 = .ok (.iconst 1, 1) := by decide +kernel
theorem dX3_inNumber_19 : decode cX3_inNumber 19 = .ok (.invokevirtual 33, 3) := by decide +kernel
theorem dX3_inNumber_22 : decode cX3_inNumber 22 = .ok (.goto 4, 3) := by decide +kernel
theorem dX3_inNumber_25 : decode cX3_inNumber 25 = .ok (.iconst 4, 1) := by decide +kernel
theorem dX3_inNumber_26 : decode cX3_inNumber 26 = .ok (.ireturn, 1) := by decide +kernel
theorem dX3_inNumber_27 : decode cX3_inNumber 27 = .ok (.iload_n 1, 1) := by decide +kernel
theorem dX3_inNumber_28 : decode cX3_inNumber 28 = .ok (.bipush 42, 2) := by decide +kernel
theorem dX3_inNumber_30 : decode cX3_inNumber 30 = .ok (.if_icmp .ne 20, 3) := by decide +kernel
theorem dX3_inNumber_33 : decode cX3_inNumber 33 = .ok (.aload_n 0, 1) := by decide +kernel
theorem dX3_inNumber_34 : decode cX3_inNumber 34 = .ok (.getfield 22, 3) := by decide +kernel
theorem dX3_inNumber_37 : decode cX3_inNumber 37 = .ok (.iconst 2, 1) := by decide +kernel
theorem dX3_inNumber_38 : decode cX3_inNumber 38 = .ok (.iadd, 1) := by decide +kernel
theorem dX3_inNumber_39 : decode cX3_inNumber 39 = .ok (.bipush 48, 2) := by decide +kernel
theorem dX3_inNumber_41 : decode cX3_inNumber 41 = .ok (.if_icmp .gt 7, 3) := by decide +kernel
theorem dX3_inNumber_44 : decode cX3_inNumber 44 = .ok (.iconst 2, 1) := by decide +kernel
theorem dX3_inNumber_45 : decode cX3_inNumber 45 = .ok (.goto 4, 3) := by decide +kernel
theorem dX3_inNumber_48 : decode cX3_inNumber 48 = .ok (.iconst 4, 1) := by decide +kernel
theorem dX3_inNumber_49 : decode cX3_inNumber 49 = .ok (.ireturn, 1) := by decide +kernel
theorem dX3_inNumber_50 : decode cX3_inNumber 50 = .ok (.iload_n 1, 1) := by decide +kernel
theorem dX3_inNumber_51 : decode cX3_inNumber 51 = .ok (.invokestatic 50, 3) := by decide +kernel
theorem dX3_inNumber_54 : decode cX3_inNumber 54 = .ok (.ifCond .eq 28, 3) := by decide +kernel
theorem dX3_inNumber_57 : decode cX3_inNumber 57 = .ok (.aload_n 0, 1) := by decide +kernel
theorem dX3_inNumber_58 : decode cX3_inNumber 58 = .ok (.getfield 53, 3) := by decide +kernel
theorem dX3_inNumber_61 : decode cX3_inNumber 61 = .ok (.ifCond .eq 21, 3) := by decide +kernel
theorem dX3_inNumber_64 : decode cX3_inNumber 64 = .ok (.aload_n 0, 1) := by decide +kernel
theorem dX3_inNumber_65 : decode cX3_inNumber 65 = .ok (.getfield 53, 3) := by decide +kernel
theorem dX3_inNumber_68 : decode cX3_inNumber 68 = .ok (.bipush 10, 2) := by decide +kernel
theorem dX3_inNumber_70 : decode cX3_inNumber 70 = .ok (.imul, 1) := by decide +kernel
theorem dX3_inNumber_71 : decode cX3_inNumber 71 = .ok (.iload_n 1, 1) := by decide +kernel
theorem dX3_inNumber_72 : decode cX3_inNumber 72 = .ok (.iadd, 1) := by decide +kernel
theorem dX3_inNumber_73 : decode cX3_inNumber 73 = .ok (.bipush 48, 2) := by decide +kernel
theorem dX3_inNumber_75 : decode cX3_inNumber 75 = .ok (.isub, 1) := by decide +kernel
theorem dX3_inNumber_76 : decode cX3_inNumber 76 = .ok (.sipush 500, 3) := by decide +kernel
theorem dX3_inNumber_79 : decode cX3_inNumber 79 = .ok (.if_icmp .le 5, 3) := by decide +kernel
theorem dX3_inNumber_82 : decode cX3_inNumber 82 = .ok (.iconst 4, 1) := by decide +kernel
theorem dX3_inNumber_83 : decode cX3_inNumber 83 = .ok (.ireturn, 1) := by decide +kernel
theorem dX3_inNumber_84 : decode cX3_inNumber 84 = .ok (.aload_n 0, 1) := by decide +kernel
theorem dX3_inNumber_85 : decode cX3_inNumber 85 = .ok (.aload_n 0, 1) := by decide +kernel
theorem dX3_inNumber_86 : decode cX3_inNumber 86 = .ok (.getfield 53, 3) := by decide +kernel
theorem dX3_inNumber_89 : decode cX3_inNumber 89 = .ok (.bipush 10, 2) := by decide +kernel
theorem dX3_inNumber_91 : decode cX3_inNumber 91 = .ok (.imul, 1) := by decide +kernel
theorem dX3_inNumber_92 : decode cX3_inNumber 92 = .ok (.iload_n 1, 1) := by decide +kernel
theorem dX3_inNumber_93 : decode cX3_inNumber 93 = .ok (.iadd, 1) := by decide +kernel
theorem dX3_inNumber_94 : decode cX3_inNumber 94 = .ok (.bipush 48, 2) := by decide +kernel
theorem dX3_inNumber_96 : decode cX3_inNumber 96 = .ok (.isub, 1) := by decide +kernel
theorem dX3_inNumber_97 : decode cX3_inNumber 97 = .ok (.putfield 53, 3) := by decide +kernel
theorem dX3_inNumber_100 : decode cX3_inNumber 100 = .ok (.iconst 1, 1) := by decide +kernel
theorem dX3_inNumber_101 : decode cX3_inNumber 101 = .ok (.ireturn, 1) := by decide +kernel
theorem dX3_beginTimes_0 : decode cX3_beginTimes 0 = .ok (.iload_n 1, 1) := by decide +kernel
theorem dX3_beginTimes_1 : decode cX3_beginTimes 1 = .ok (.invokestatic 50, 3) := by decide +kernel
theorem dX3_beginTimes_4 : decode cX3_beginTimes 4 = .ok (.ifCond .eq 9, 3) := by decide +kernel
theorem dX3_beginTimes_7 : decode cX3_beginTimes 7 = .ok (.iload_n 1, 1) := by decide +kernel
theorem dX3_beginTimes_8 : decode cX3_beginTimes 8 = .ok (.bipush 48, 2) := by decide +kernel
theorem dX3_beginTimes_10 : decode cX3_beginTimes 10 = .ok (.if_icmp .ne 5, 3) := by decide +kernel
theorem dX3_beginTimes_13 : decode cX3_beginTimes 13 = .ok (.iconst 4, 1) := by decide +kernel
theorem dX3_beginTimes_14 : decode cX3_beginTimes 14 = .ok (.ireturn, 1) := by decide +kernel
theorem dX3_beginTimes_15 : decode cX3_beginTimes 15 = .ok (.aload_n 0, 1) := by decide +kernel
theorem dX3_beginTimes_16 : decode cX3_beginTimes 16 = .ok (.iload_n 1, 1) := by decide +kernel
theorem dX3_beginTimes_17 : decode cX3_beginTimes 17 = .ok (.bipush 48, 2) := by decide +kernel
theorem dX3_beginTimes_19 : decode cX3_beginTimes 19 = .ok (.isub, 1) := by decide +kernel
theorem dX3_beginTimes_20 : decode cX3_beginTimes 20 = .ok (.putfield 56, 3) := by decide +kernel
theorem dX3_beginTimes_23 : decode cX3_beginTimes 23 = .ok (.aload_n 0, 1) := by decide +kernel
theorem dX3_beginTimes_24 : decode cX3_beginTimes 24 = .ok (.getfield 22, 3) := by decide +kernel
theorem dX3_beginTimes_27 : decode cX3_beginTimes 27 = .ok (.aload_n 0, 1) := by decide +kernel
theorem dX3_beginTimes_28 : decode cX3_beginTimes 28 = .ok (.getfield 56, 3) := by decide +kernel
theorem dX3_beginTimes_31 : decode cX3_beginTimes 31 = .ok (.iconst 1, 1) := by decide +kernel
theorem dX3_beginTimes_32 : decode cX3_beginTimes 32 = .ok (.if_icmp .ne 8, 3) := by decide +kernel
theorem dX3_beginTimes_35 : decode cX3_beginTimes 35 = .ok (.bipush 10, 2) := by decide +kernel
theorem dX3_beginTimes_37 : decode cX3_beginTimes 37 = .ok (.goto 7, 3) := by decide +kernel
theorem dX3_beginTimes_40 : decode cX3_beginTimes 40 = .ok (.aload_n 0, 1) := by decide +kernel
theorem dX3_beginTimes_41 : decode cX3_beginTimes 41 = .ok (.getfield 56, 3) := by decide +kernel
theorem dX3_beginTimes_44 : decode cX3_beginTimes 44 = .ok (.iadd, 1) := by decide +kernel
theorem dX3_beginTimes_45 : decode cX3_beginTimes 45 = .ok (.bipush 48, 2) := by decide +kernel
theorem dX3_beginTimes_47 : decode cX3_beginTimes 47 = .ok (.if_icmp .gt 7, 3) := by decide +kernel
theorem dX3_beginTimes_50 : decode cX3_beginTimes 50 = .ok (.iconst 3, 1) := by decide +kernel
theorem dX3_beginTimes_51 : decode cX3_beginTimes 51 = .ok (.goto 4, 3) := by decide +kernel
theorem dX3_beginTimes_54 : decode cX3_beginTimes 54 = .ok (.iconst 4, 1) := by decide +kernel
theorem dX3_beginTimes_55 : decode cX3_beginTimes 55 = .ok (.ireturn, 1) := by decide +kernel
theorem dX3_inTimes_0 : decode cX3_inTimes 0 = .ok (.iload_n 1, 1) := by decide +kernel
theorem dX3_inTimes_1 : decode cX3_inTimes 1 = .ok (.bipush 44, 2) := by decide +kernel
theorem dX3_inTimes_3 : decode cX3_inTimes 3 = .ok (.if_icmp .ne 35, 3) := by decide +kernel
theorem dX3_inTimes_6 : decode cX3_inTimes 6 = .ok (.aload_n 0, 1) := by decide +kernel
theorem dX3_inTimes_7 : decode cX3_inTimes 7 = .ok (.getfield 56, 3) := by decide +kernel
theorem dX3_inTimes_10 : decode cX3_inTimes 10 = .ok (.iconst 2, 1) := by decide +kernel
theorem dX3_inTimes_11 : decode cX3_inTimes 11 = .ok (.if_icmp .lt 25, 3) := by decide +kernel
theorem dX3_inTimes_14 : decode cX3_inTimes 14 = .ok (.aload_n 0, 1) := by decide +kernel
theorem dX3_inTimes_15 : decode cX3_inTimes 15 = .ok (.getfield 22, 3) := by decide +kernel
theorem dX3_inTimes_18 : decode cX3_inTimes 18 = .ok (.aload_n 0, 1) := by decide +kernel
theorem dX3_inTimes_19 : decode cX3_inTimes 19 = .ok (.getfield 56, 3) := by decide +kernel
theorem dX3_inTimes_22 : decode cX3_inTimes 22 = .ok (.iadd, 1) := by decide +kernel
theorem dX3_inTimes_23 : decode cX3_inTimes 23 = .ok (.bipush 48, 2) := by decide +kernel
theorem dX3_inTimes_25 : decode cX3_inTimes 25 = .ok (.if_icmp .ge 11, 3) := by decide +kernel
theorem dX3_inTimes_28 : decode cX3_inTimes 28 = .ok (.aload_n 0, 1) := by decide +kernel
theorem dX3_inTimes_29 : decode cX3_inTimes 29 = .ok (.iconst 3, 1) := by decide +kernel
theorem dX3_inTimes_30 : decode cX3_inTimes 30 = .ok (.invokevirtual 33, 3) := by decide +kernel
theorem dX3_inTimes_33 : decode cX3_inTimes 33 = .ok (.goto 4, 3) := by decide +kernel
theorem dX3_inTimes_36 : decode cX3_inTimes 36 = .ok (.iconst 4, 1) := by decide +kernel
theorem dX3_inTimes_37 : decode cX3_inTimes 37 = .ok (.ireturn, 1) := by decide +kernel
theorem dX3_inTimes_38 : decode cX3_inTimes 38 = .ok (.iload_n 1, 1) := by decide +kernel
theorem dX3_inTimes_39 : decode cX3_inTimes 39 = .ok (.invokestatic 50, 3) := by decide +kernel
theorem dX3_inTimes_42 : decode cX3_inTimes 42 = .ok (.ifCond .eq 25, 3) := by decide +kernel
theorem dX3_inTimes_45 : decode cX3_inTimes 45 = .ok (.aload_n 0, 1) := by decide +kernel
theorem dX3_inTimes_46 : decode cX3_inTimes 46 = .ok (.getfield 22, 3) := by decide +kernel
theorem dX3_inTimes_49 : decode cX3_inTimes 49 = .ok (.aload_n 0, 1) := by decide +kernel
theorem dX3_inTimes_50 : decode cX3_inTimes 50 = .ok (.getfield 56, 3) := by decide +kernel
theorem dX3_inTimes_53 : decode cX3_inTimes 53 = .ok (.bipush 10, 2) := by decide +kernel
theorem dX3_inTimes_55 : decode cX3_inTimes 55 = .ok (.imul, 1) := by decide +kernel
theorem dX3_inTimes_56 : decode cX3_inTimes 56 = .ok (.iadd, 1) := by decide +kernel
theorem dX3_inTimes_57 : decode cX3_inTimes 57 = .ok (.iload_n 1, 1) := by decide +kernel
theorem dX3_inTimes_58 : decode cX3_inTimes 58 = .ok (.iadd, 1) := by decide +kernel
theorem dX3_inTimes_59 : decode cX3_inTimes 59 = .ok (.bipush 48, 2) := by decide +kernel
theorem dX3_inTimes_61 : decode cX3_inTimes 61 = .ok (.isub, 1) := by decide +kernel
theorem dX3_inTimes_62 : decode cX3_inTimes 62 = .ok (.bipush 48, 2) := by decide +kernel
theorem dX3_inTimes_64 : decode cX3_inTimes 64 = .ok (.if_icmp .le 5, 3) := by decide +kernel
theorem dX3_inTimes_67 : decode cX3_inTimes 67 = .ok (.iconst 4, 1) := by decide +kernel
theorem dX3_inTimes_68 : decode cX3_inTimes 68 = .ok (.ireturn, 1) := by decide +kernel
theorem dX3_inTimes_69 : decode cX3_inTimes 69 = .ok (.aload_n 0, 1) := by decide +kernel
theorem dX3_inTimes_70 : decode cX3_inTimes 70 = .ok (.aload_n 0, 1) := by decide +kernel
theorem dX3_inTimes_71 : decode cX3_inTimes 71 = .ok (.getfield 56, 3) := by decide +kernel
theorem dX3_inTimes_74 : decode cX3_inTimes 74 = .ok (.bipush 10, 2) := by decide +kernel
theorem dX3_inTimes_76 : decode cX3_inTimes 76 = .ok (.imul, 1) := by decide +kernel
theorem dX3_inTimes_77 : decode cX3_inTimes 77 = .ok (.iload_n 1, 1) := by decide +kernel
theorem dX3_inTimes_78 : decode cX3_inTimes 78 = .ok (.iadd, 1) := by decide +kernel
theorem dX3_inTimes_79 : decode cX3_inTimes 79 = .ok (.bipush 48, 2) := by decide +kernel
theorem dX3_inTimes_81 : decode cX3_inTimes 81 = .ok (.isub, 1) := by decide +kernel
theorem dX3_inTimes_82 : decode cX3_inTimes 82 = .ok (.putfield 56, 3) := by decide +kernel
theorem dX3_inTimes_85 : decode cX3_inTimes 85 = .ok (.iconst 3, 1) := by decide +kernel
theorem dX3_inTimes_86 : decode cX3_inTimes 86 = .ok (.ireturn, 1) := by decide +kernel
theorem dX3_isWhole_0 : decode cX3_isWhole 0 = .ok (.iload_n 1, 1) := by decide +kernel
theorem dX3_isWhole_1 : decode cX3_isWhole 1 = .ok (.iconst 1, 1) := by decide +kernel
theorem dX3_isWhole_2 : decode cX3_isWhole 2 = .ok (.if_icmp .eq 16, 3) := by decide +kernel
theorem dX3_isWhole_5 : decode cX3_isWhole 5 = .ok (.iload_n 1, 1) := by decide +kernel
theorem dX3_isWhole_6 : decode cX3_isWhole 6 = .ok (.iconst 3, 1) := by decide +kernel
theorem dX3_isWhole_7 : decode cX3_isWhole 7 = .ok (.if_icmp .ne 15, 3) := by decide +kernel
theorem dX3_isWhole_10 : decode cX3_isWhole 10 = .ok (.aload_n 0, 1) := by decide +kernel
theorem dX3_isWhole_11 : decode cX3_isWhole 11 = .ok (.getfield 56, 3) := by decide +kernel
theorem dX3_isWhole_14 : decode cX3_isWhole 14 = .ok (.iconst 2, 1) := by decide +kernel
theorem dX3_isWhole_15 : decode cX3_isWhole 15 = .ok (.if_icmp .lt 7, 3) := by decide +kernel
theorem dX3_isWhole_18 : decode cX3_isWhole 18 = .ok (.iconst 1, 1) := by decide +kernel
theorem dX3_isWhole_19 : decode cX3_isWhole 19 = .ok (.goto 4, 3) := by decide +kernel
theorem dX3_isWhole_22 : decode cX3_isWhole 22 = .ok (.iconst 0, 1) := by decide +kernel
theorem dX3_isWhole_23 : decode cX3_isWhole 23 = .ok (.ireturn, 1) := by decide +kernel
theorem dX3_endItem_0 : decode cX3_endItem 0 = .ok (.bipush 48, 2) := by decide +kernel
theorem dX3_endItem_2 : decode cX3_endItem 2 = .ok (.aload_n 0, 1) := by decide +kernel
theorem dX3_endItem_3 : decode cX3_endItem 3 = .ok (.getfield 22, 3) := by decide +kernel
theorem dX3_endItem_6 : decode cX3_endItem 6 = .ok (.iload_n 1, 1) := by decide +kernel
theorem dX3_endItem_7 : decode cX3_endItem 7 = .ok (.iconst 3, 1) := by decide +kernel
theorem dX3_endItem_8 : decode cX3_endItem 8 = .ok (.if_icmp .ne 10, 3) := by decide +kernel
theorem dX3_endItem_11 : decode cX3_endItem 11 = .ok (.aload_n 0, 1) := by decide +kernel
theorem dX3_endItem_12 : decode cX3_endItem 12 = .ok (.getfield 56, 3) := by decide +kernel
theorem dX3_endItem_15 : decode cX3_endItem 15 = .ok (.goto 4, 3) := by decide +kernel
theorem dX3_endItem_18 : decode cX3_endItem 18 = .ok (.iconst 1, 1) := by decide +kernel
theorem dX3_endItem_19 : decode cX3_endItem 19 = .ok (.iadd, 1) := by decide +kernel
theorem dX3_endItem_20 : decode cX3_endItem 20 = .ok (.invokestatic 59, 3) := by decide +kernel
theorem dX3_endItem_23 : decode cX3_endItem 23 = .ok (.istore_n 2, 1) := by decide +kernel
theorem dX3_endItem_24 : decode cX3_endItem 24 = .ok (.aload_n 0, 1) := by decide +kernel
theorem dX3_endItem_25 : decode cX3_endItem 25 = .ok (.getfield 22, 3) := by decide +kernel
theorem dX3_endItem_28 : decode cX3_endItem 28 = .ok (.istore_n 3, 1) := by decide +kernel
theorem dX3_endItem_29 : decode cX3_endItem 29 = .ok (.iload_n 3, 1) := by decide +kernel
theorem dX3_endItem_30 : decode cX3_endItem 30 = .ok (.iload_n 2, 1) := by decide +kernel
theorem dX3_endItem_31 : decode cX3_endItem 31 = .ok (.if_icmp .ge 19, 3) := by decide +kernel
theorem dX3_endItem_34 : decode cX3_endItem 34 = .ok (.aload_n 0, 1) := by decide +kernel
theorem dX3_endItem_35 : decode cX3_endItem 35 = .ok (.getfield 15, 3) := by decide +kernel
theorem dX3_endItem_38 : decode cX3_endItem 38 = .ok (.iload_n 3, 1) := by decide +kernel
theorem dX3_endItem_39 : decode cX3_endItem 39 = .ok (.aload_n 0, 1) := by decide +kernel
theorem dX3_endItem_40 : decode cX3_endItem 40 = .ok (.getfield 53, 3) := by decide +kernel
theorem dX3_endItem_43 : decode cX3_endItem 43 = .ok (.iastore, 1) := by decide +kernel
theorem dX3_endItem_44 : decode cX3_endItem 44 = .ok (.iinc 3 1, 3) := by decide +kernel
theorem dX3_endItem_47 : decode cX3_endItem 47 = .ok (.goto (-18), 3) := by decide +kernel
theorem dX3_endItem_50 : decode cX3_endItem 50 = .ok (.aload_n 0, 1) := by decide +kernel
theorem dX3_endItem_51 : decode cX3_endItem 51 = .ok (.iload_n 2, 1) := by decide +kernel
theorem dX3_endItem_52 : decode cX3_endItem 52 = .ok (.putfield 22, 3) := by decide +kernel
theorem dX3_endItem_55 : decode cX3_endItem 55 = .ok (.iconst 0, 1) := by decide +kernel
theorem dX3_endItem_56 : decode cX3_endItem 56 = .ok (.ireturn, 1) := by decide +kernel
theorem dX4_init_0 : decode cX4_init 0 = .ok (.aload_n 0, 1) := by decide +kernel
theorem dX4_init_1 : decode cX4_init 1 = .ok (.invokespecial 3, 3) := by decide +kernel
theorem dX4_init_4 : decode cX4_init 4 = .ok (.aload_n 0, 1) := by decide +kernel
theorem dX4_init_5 : decode cX4_init 5 = .ok (.bipush 12, 2) := by decide +kernel
theorem dX4_init_7 : decode cX4_init 7 = .ok (.newarray .int, 2) := by decide +kernel
theorem dX4_init_9 : decode cX4_init 9 = .ok (.putfield 9, 3) := by decide +kernel
theorem dX4_init_12 : decode cX4_init 12 = .ok (.aload_n 0, 1) := by decide +kernel
theorem dX4_init_13 : decode cX4_init 13 = .ok (.bipush 12, 2) := by decide +kernel
theorem dX4_init_15 : decode cX4_init 15 = .ok (.newarray .int, 2) := by decide +kernel
theorem dX4_init_17 : decode cX4_init 17 = .ok (.putfield 15, 3) := by decide +kernel
theorem dX4_init_20 : decode cX4_init 20 = .ok (.aload_n 0, 1) := by decide +kernel
theorem dX4_init_21 : decode cX4_init 21 = .ok (.bipush 12, 2) := by decide +kernel
theorem dX4_init_23 : decode cX4_init 23 = .ok (.newarray .int, 2) := by decide +kernel
theorem dX4_init_25 : decode cX4_init 25 = .ok (.putfield 18, 3) := by decide +kernel
theorem dX4_init_28 : decode cX4_init 28 = .ok (.return_, 1) := by decide +kernel
theorem dX4_add_0 : decode cX4_add 0 = .ok (.aload_n 0, 1) := by decide +kernel
theorem dX4_add_1 : decode cX4_add 1 = .ok (.getfield 9, 3) := by decide +kernel
theorem dX4_add_4 : decode cX4_add 4 = .ok (.aload_n 0, 1) := by decide +kernel
theorem dX4_add_5 : decode cX4_add 5 = .ok (.getfield 21, 3) := by decide +kernel
theorem dX4_add_8 : decode cX4_add 8 = .ok (.iload_n 1, 1) := by decide +kernel
theorem dX4_add_9 : decode cX4_add 9 = .ok (.iastore, 1) := by decide +kernel
theorem dX4_add_10 : decode cX4_add 10 = .ok (.aload_n 0, 1) := by decide +kernel
theorem dX4_add_11 : decode cX4_add 11 = .ok (.getfield 15, 3) := by decide +kernel
theorem dX4_add_14 : decode cX4_add 14 = .ok (.aload_n 0, 1) := by decide +kernel
theorem dX4_add_15 : decode cX4_add 15 = .ok (.getfield 21, 3) := by decide +kernel
theorem dX4_add_18 : decode cX4_add 18 = .ok (.iload_n 2, 1) := by decide +kernel
theorem dX4_add_19 : decode cX4_add 19 = .ok (.iastore, 1) := by decide +kernel
theorem dX4_add_20 : decode cX4_add 20 = .ok (.aload_n 0, 1) := by decide +kernel
theorem dX4_add_21 : decode cX4_add 21 = .ok (.getfield 18, 3) := by decide +kernel
theorem dX4_add_24 : decode cX4_add 24 = .ok (.aload_n 0, 1) := by decide +kernel
theorem dX4_add_25 : decode cX4_add 25 = .ok (.getfield 21, 3) := by decide +kernel
theorem dX4_add_28 : decode cX4_add 28 = .ok (.iload_n 3, 1) := by decide +kernel
theorem dX4_add_29 : decode cX4_add 29 = .ok (.iastore, 1) := by decide +kernel
theorem dX4_add_30 : decode cX4_add 30 = .ok (.aload_n 0, 1) := by decide +kernel
theorem dX4_add_31 : decode cX4_add 31 = .ok (.dup, 1) := by decide +kernel
theorem dX4_add_32 : decode cX4_add 32 = .ok (.getfield 21, 3) := by decide +kernel
theorem dX4_add_35 : decode cX4_add 35 = .ok (.iconst 1, 1) := by decide +kernel
theorem dX4_add_36 : decode cX4_add 36 = .ok (.iadd, 1) := by decide +kernel
theorem dX4_add_37 : decode cX4_add 37 = .ok (.putfield 21, 3) := by decide +kernel
theorem dX4_add_40 : decode cX4_add 40 = .ok (.return_, 1) := by decide +kernel
theorem dX4_remove_0 : decode cX4_remove 0 = .ok (.aload_n 0, 1) := by decide +kernel
theorem dX4_remove_1 : decode cX4_remove 1 = .ok (.dup, 1) := by decide +kernel
theorem dX4_remove_2 : decode cX4_remove 2 = .ok (.getfield 21, 3) := by decide +kernel
theorem dX4_remove_5 : decode cX4_remove 5 = .ok (.iconst 1, 1) := by decide +kernel
theorem dX4_remove_6 : decode cX4_remove 6 = .ok (.isub, 1) := by decide +kernel
theorem dX4_remove_7 : decode cX4_remove 7 = .ok (.putfield 21, 3) := by decide +kernel
theorem dX4_remove_10 : decode cX4_remove 10 = .ok (.iload_n 1, 1) := by decide +kernel
theorem dX4_remove_11 : decode cX4_remove 11 = .ok (.istore_n 2, 1) := by decide +kernel
theorem dX4_remove_12 : decode cX4_remove 12 = .ok (.iload_n 2, 1) := by decide +kernel
theorem dX4_remove_13 : decode cX4_remove 13 = .ok (.aload_n 0, 1) := by decide +kernel
theorem dX4_remove_14 : decode cX4_remove 14 = .ok (.getfield 21, 3) := by decide +kernel
theorem dX4_remove_17 : decode cX4_remove 17 = .ok (.if_icmp .ge 51, 3) := by decide +kernel
theorem dX4_remove_20 : decode cX4_remove 20 = .ok (.aload_n 0, 1) := by decide +kernel
theorem dX4_remove_21 : decode cX4_remove 21 = .ok (.getfield 9, 3) := by decide +kernel
theorem dX4_remove_24 : decode cX4_remove 24 = .ok (.iload_n 2, 1) := by decide +kernel
theorem dX4_remove_25 : decode cX4_remove 25 = .ok (.aload_n 0, 1) := by decide +kernel
theorem dX4_remove_26 : decode cX4_remove 26 = .ok (.getfield 9, 3) := by decide +kernel
theorem dX4_remove_29 : decode cX4_remove 29 = .ok (.iload_n 2, 1) := by decide +kernel
theorem dX4_remove_30 : decode cX4_remove 30 = .ok (.iconst 1, 1) := by decide +kernel
theorem dX4_remove_31 : decode cX4_remove 31 = .ok (.iadd, 1) := by decide +kernel
theorem dX4_remove_32 : decode cX4_remove 32 = .ok (.iaload, 1) := by decide +kernel
theorem dX4_remove_33 : decode cX4_remove 33 = .ok (.iastore, 1) := by decide +kernel
theorem dX4_remove_34 : decode cX4_remove 34 = .ok (.aload_n 0, 1) := by decide +kernel
theorem dX4_remove_35 : decode cX4_remove 35 = .ok (.getfield 15, 3) := by decide +kernel
theorem dX4_remove_38 : decode cX4_remove 38 = .ok (.iload_n 2, 1) := by decide +kernel
theorem dX4_remove_39 : decode cX4_remove 39 = .ok (.aload_n 0, 1) := by decide +kernel
theorem dX4_remove_40 : decode cX4_remove 40 = .ok (.getfield 15, 3) := by decide +kernel
theorem dX4_remove_43 : decode cX4_remove 43 = .ok (.iload_n 2, 1) := by decide +kernel
theorem dX4_remove_44 : decode cX4_remove 44 = .ok (.iconst 1, 1) := by decide +kernel
theorem dX4_remove_45 : decode cX4_remove 45 = .ok (.iadd, 1) := by decide +kernel
theorem dX4_remove_46 : decode cX4_remove 46 = .ok (.iaload, 1) := by decide +kernel
theorem dX4_remove_47 : decode cX4_remove 47 = .ok (.iastore, 1) := by decide +kernel
theorem dX4_remove_48 : decode cX4_remove 48 = .ok (.aload_n 0, 1) := by decide +kernel
theorem dX4_remove_49 : decode cX4_remove 49 = .ok (.getfield 18, 3) := by decide +kernel
theorem dX4_remove_52 : decode cX4_remove 52 = .ok (.iload_n 2, 1) := by decide +kernel
theorem dX4_remove_53 : decode cX4_remove 53 = .ok (.aload_n 0, 1) := by decide +kernel
theorem dX4_remove_54 : decode cX4_remove 54 = .ok (.getfield 18, 3) := by decide +kernel
theorem dX4_remove_57 : decode cX4_remove 57 = .ok (.iload_n 2, 1) := by decide +kernel
theorem dX4_remove_58 : decode cX4_remove 58 = .ok (.iconst 1, 1) := by decide +kernel
theorem dX4_remove_59 : decode cX4_remove 59 = .ok (.iadd, 1) := by decide +kernel
theorem dX4_remove_60 : decode cX4_remove 60 = .ok (.iaload, 1) := by decide +kernel
theorem dX4_remove_61 : decode cX4_remove 61 = .ok (.iastore, 1) := by decide +kernel
theorem dX4_remove_62 : decode cX4_remove 62 = .ok (.iinc 2 1, 3) := by decide +kernel
theorem dX4_remove_65 : decode cX4_remove 65 = .ok (.goto (-53), 3) := by decide +kernel
theorem dX4_remove_68 : decode cX4_remove 68 = .ok (.return_, 1) := by decide +kernel
theorem dX4_copy_0 : decode cX4_copy 0 = .ok (.aload_n 0, 1) := by decide +kernel
theorem dX4_copy_1 : decode cX4_copy 1 = .ok (.aload_n 1, 1) := by decide +kernel
theorem dX4_copy_2 : decode cX4_copy 2 = .ok (.getfield 21, 3) := by decide +kernel
theorem dX4_copy_5 : decode cX4_copy 5 = .ok (.putfield 21, 3) := by decide +kernel
theorem dX4_copy_8 : decode cX4_copy 8 = .ok (.aload_n 1, 1) := by decide +kernel
theorem dX4_copy_9 : decode cX4_copy 9 = .ok (.getfield 9, 3) := by decide +kernel
theorem dX4_copy_12 : decode cX4_copy 12 = .ok (.iconst 0, 1) := by decide +kernel
theorem dX4_copy_13 : decode cX4_copy 13 = .ok (.aload_n 0, 1) := by decide +kernel
theorem dX4_copy_14 : decode cX4_copy 14 = .ok (.getfield 9, 3) := by decide +kernel
theorem dX4_copy_17 : decode cX4_copy 17 = .ok (.iconst 0, 1) := by decide +kernel
theorem dX4_copy_18 : decode cX4_copy 18 = .ok (.bipush 12, 2) := by decide +kernel
theorem dX4_copy_20 : decode cX4_copy 20 = .ok (.invokestatic 25, 3) := by decide +kernel
theorem dX4_copy_23 : decode cX4_copy 23 = .ok (.aload_n 1, 1) := by decide +kernel
theorem dX4_copy_24 : decode cX4_copy 24 = .ok (.getfield 15, 3) := by decide +kernel
theorem dX4_copy_27 : decode cX4_copy 27 = .ok (.iconst 0, 1) := by decide +kernel
theorem dX4_copy_28 : decode cX4_copy 28 = .ok (.aload_n 0, 1) := by decide +kernel
theorem dX4_copy_29 : decode cX4_copy 29 = .ok (.getfield 15, 3) := by decide +kernel
theorem dX4_copy_32 : decode cX4_copy 32 = .ok (.iconst 0, 1) := by decide +kernel
theorem dX4_copy_33 : decode cX4_copy 33 = .ok (.bipush 12, 2) := by decide +kernel
theorem dX4_copy_35 : decode cX4_copy 35 = .ok (.invokestatic 25, 3) := by decide +kernel
theorem dX4_copy_38 : decode cX4_copy 38 = .ok (.aload_n 1, 1) := by decide +kernel
theorem dX4_copy_39 : decode cX4_copy 39 = .ok (.getfield 18, 3) := by decide +kernel
theorem dX4_copy_42 : decode cX4_copy 42 = .ok (.iconst 0, 1) := by decide +kernel
theorem dX4_copy_43 : decode cX4_copy 43 = .ok (.aload_n 0, 1) := by decide +kernel
theorem dX4_copy_44 : decode cX4_copy 44 = .ok (.getfield 18, 3) := by decide +kernel
theorem dX4_copy_47 : decode cX4_copy 47 = .ok (.iconst 0, 1) := by decide +kernel
theorem dX4_copy_48 : decode cX4_copy 48 = .ok (.bipush 12, 2) := by decide +kernel
theorem dX4_copy_50 : decode cX4_copy 50 = .ok (.invokestatic 25, 3) := by decide +kernel
theorem dX4_copy_53 : decode cX4_copy 53 = .ok (.return_, 1) := by decide +kernel
theorem dX4_told_0 : decode cX4_told 0 = .ok (.iload_n 2, 1) := by decide +kernel
theorem dX4_told_1 : decode cX4_told 1 = .ok (.lookupswitch 41 #[(0, 27), (1, 34)], 27) := by decide +kernel
theorem dX4_told_28 : decode cX4_told 28 = .ok (.aload_n 0, 1) := by decide +kernel
theorem dX4_told_29 : decode cX4_told 29 = .ok (.getfield 9, 3) := by decide +kernel
theorem dX4_told_32 : decode cX4_told 32 = .ok (.iload_n 1, 1) := by decide +kernel
theorem dX4_told_33 : decode cX4_told 33 = .ok (.iaload, 1) := by decide +kernel
theorem dX4_told_34 : decode cX4_told 34 = .ok (.ireturn, 1) := by decide +kernel
theorem dX4_told_35 : decode cX4_told 35 = .ok (.aload_n 0, 1) := by decide +kernel
theorem dX4_told_36 : decode cX4_told 36 = .ok (.getfield 15, 3) := by decide +kernel
theorem dX4_told_39 : decode cX4_told 39 = .ok (.iload_n 1, 1) := by decide +kernel
theorem dX4_told_40 : decode cX4_told 40 = .ok (.iaload, 1) := by decide +kernel
theorem dX4_told_41 : decode cX4_told 41 = .ok (.ireturn, 1) := by decide +kernel
theorem dX4_told_42 : decode cX4_told 42 = .ok (.aload_n 0, 1) := by decide +kernel
theorem dX4_told_43 : decode cX4_told 43 = .ok (.getfield 18, 3) := by decide +kernel
theorem dX4_told_46 : decode cX4_told 46 = .ok (.iload_n 1, 1) := by decide +kernel
theorem dX4_told_47 : decode cX4_told 47 = .ok (.iaload, 1) := by decide +kernel
theorem dX4_told_48 : decode cX4_told 48 = .ok (.ireturn, 1) := by decide +kernel
theorem dX4_involve_0 : decode cX4_involve 0 = .ok (.iconst 0, 1) := by decide +kernel
theorem dX4_involve_1 : decode cX4_involve 1 = .ok (.istore_n 2, 1) := by decide +kernel
theorem dX4_involve_2 : decode cX4_involve 2 = .ok (.iload_n 2, 1) := by decide +kernel
theorem dX4_involve_3 : decode cX4_involve 3 = .ok (.aload_n 0, 1) := by decide +kernel
theorem dX4_involve_4 : decode cX4_involve 4 = .ok (.getfield 21, 3) := by decide +kernel
theorem dX4_involve_7 : decode cX4_involve 7 = .ok (.if_icmp .ge 31, 3) := by decide +kernel
theorem dX4_involve_10 : decode cX4_involve 10 = .ok (.aload_n 0, 1) := by decide +kernel
theorem dX4_involve_11 : decode cX4_involve 11 = .ok (.getfield 9, 3) := by decide +kernel
theorem dX4_involve_14 : decode cX4_involve 14 = .ok (.iload_n 2, 1) := by decide +kernel
theorem dX4_involve_15 : decode cX4_involve 15 = .ok (.iaload, 1) := by decide +kernel
theorem dX4_involve_16 : decode cX4_involve 16 = .ok (.iload_n 1, 1) := by decide +kernel
theorem dX4_involve_17 : decode cX4_involve 17 = .ok (.if_icmp .eq 13, 3) := by decide +kernel
theorem dX4_involve_20 : decode cX4_involve 20 = .ok (.aload_n 0, 1) := by decide +kernel
theorem dX4_involve_21 : decode cX4_involve 21 = .ok (.getfield 15, 3) := by decide +kernel
theorem dX4_involve_24 : decode cX4_involve 24 = .ok (.iload_n 2, 1) := by decide +kernel
theorem dX4_involve_25 : decode cX4_involve 25 = .ok (.iaload, 1) := by decide +kernel
theorem dX4_involve_26 : decode cX4_involve 26 = .ok (.iload_n 1, 1) := by decide +kernel
theorem dX4_involve_27 : decode cX4_involve 27 = .ok (.if_icmp .ne 5, 3) := by decide +kernel
theorem dX4_involve_30 : decode cX4_involve 30 = .ok (.iconst 1, 1) := by decide +kernel
theorem dX4_involve_31 : decode cX4_involve 31 = .ok (.ireturn, 1) := by decide +kernel
theorem dX4_involve_32 : decode cX4_involve 32 = .ok (.iinc 2 1, 3) := by decide +kernel
theorem dX4_involve_35 : decode cX4_involve 35 = .ok (.goto (-33), 3) := by decide +kernel
theorem dX4_involve_38 : decode cX4_involve 38 = .ok (.iconst 0, 1) := by decide +kernel
theorem dX4_involve_39 : decode cX4_involve 39 = .ok (.ireturn, 1) := by decide +kernel
theorem dX4_renumber_0 : decode cX4_renumber 0 = .ok (.iconst 0, 1) := by decide +kernel
theorem dX4_renumber_1 : decode cX4_renumber 1 = .ok (.istore_n 2, 1) := by decide +kernel
theorem dX4_renumber_2 : decode cX4_renumber 2 = .ok (.iload_n 2, 1) := by decide +kernel
theorem dX4_renumber_3 : decode cX4_renumber 3 = .ok (.aload_n 0, 1) := by decide +kernel
theorem dX4_renumber_4 : decode cX4_renumber 4 = .ok (.getfield 21, 3) := by decide +kernel
theorem dX4_renumber_7 : decode cX4_renumber 7 = .ok (.if_icmp .ge 57, 3) := by decide +kernel
theorem dX4_renumber_10 : decode cX4_renumber 10 = .ok (.aload_n 0, 1) := by decide +kernel
theorem dX4_renumber_11 : decode cX4_renumber 11 = .ok (.getfield 9, 3) := by decide +kernel
theorem dX4_renumber_14 : decode cX4_renumber 14 = .ok (.iload_n 2, 1) := by decide +kernel
theorem dX4_renumber_15 : decode cX4_renumber 15 = .ok (.dup2, 1) := by decide +kernel
theorem dX4_renumber_16 : decode cX4_renumber 16 = .ok (.iaload, 1) := by decide +kernel
theorem dX4_renumber_17 : decode cX4_renumber 17 = .ok (.aload_n 0, 1) := by decide +kernel
theorem dX4_renumber_18 : decode cX4_renumber 18 = .ok (.getfield 9, 3) := by decide +kernel
theorem dX4_renumber_21 : decode cX4_renumber 21 = .ok (.iload_n 2, 1) := by decide +kernel
theorem dX4_renumber_22 : decode cX4_renumber 22 = .ok (.iaload, 1) := by decide +kernel
theorem dX4_renumber_23 : decode cX4_renumber 23 = .ok (.iload_n 1, 1) := by decide +kernel
theorem dX4_renumber_24 : decode cX4_renumber 24 = .ok (.if_icmp .le 7, 3) := by decide +kernel
theorem dX4_renumber_27 : decode cX4_renumber 27 = .ok (.iconst 1, 1) := by decide +kernel
theorem dX4_renumber_28 : decode cX4_renumber 28 = .ok (.goto 4, 3) := by decide +kernel
theorem dX4_renumber_31 : decode cX4_renumber 31 = .ok (.iconst 0, 1) := by decide +kernel
theorem dX4_renumber_32 : decode cX4_renumber 32 = .ok (.isub, 1) := by decide +kernel
theorem dX4_renumber_33 : decode cX4_renumber 33 = .ok (.iastore, 1) := by decide +kernel
theorem dX4_renumber_34 : decode cX4_renumber 34 = .ok (.aload_n 0, 1) := by decide +kernel
theorem dX4_renumber_35 : decode cX4_renumber 35 = .ok (.getfield 15, 3) := by decide +kernel
theorem dX4_renumber_38 : decode cX4_renumber 38 = .ok (.iload_n 2, 1) := by decide +kernel
theorem dX4_renumber_39 : decode cX4_renumber 39 = .ok (.dup2, 1) := by decide +kernel
theorem dX4_renumber_40 : decode cX4_renumber 40 = .ok (.iaload, 1) := by decide +kernel
theorem dX4_renumber_41 : decode cX4_renumber 41 = .ok (.aload_n 0, 1) := by decide +kernel
theorem dX4_renumber_42 : decode cX4_renumber 42 = .ok (.getfield 15, 3) := by decide +kernel
theorem dX4_renumber_45 : decode cX4_renumber 45 = .ok (.iload_n 2, 1) := by decide +kernel
theorem dX4_renumber_46 : decode cX4_renumber 46 = .ok (.iaload, 1) := by decide +kernel
theorem dX4_renumber_47 : decode cX4_renumber 47 = .ok (.iload_n 1, 1) := by decide +kernel
theorem dX4_renumber_48 : decode cX4_renumber 48 = .ok (.if_icmp .le 7, 3) := by decide +kernel
theorem dX4_renumber_51 : decode cX4_renumber 51 = .ok (.iconst 1, 1) := by decide +kernel
theorem dX4_renumber_52 : decode cX4_renumber 52 = .ok (.goto 4, 3) := by decide +kernel
theorem dX4_renumber_55 : decode cX4_renumber 55 = .ok (.iconst 0, 1) := by decide +kernel
theorem dX4_renumber_56 : decode cX4_renumber 56 = .ok (.isub, 1) := by decide +kernel
theorem dX4_renumber_57 : decode cX4_renumber 57 = .ok (.iastore, 1) := by decide +kernel
theorem dX4_renumber_58 : decode cX4_renumber 58 = .ok (.iinc 2 1, 3) := by decide +kernel
theorem dX4_renumber_61 : decode cX4_renumber 61 = .ok (.goto (-59), 3) := by decide +kernel
theorem dX4_renumber_64 : decode cX4_renumber 64 = .ok (.return_, 1) := by decide +kernel
theorem dX4_owedBy_0 : decode cX4_owedBy 0 = .ok (.aload_n 0, 1) := by decide +kernel
theorem dX4_owedBy_1 : decode cX4_owedBy 1 = .ok (.aload_n 0, 1) := by decide +kernel
theorem dX4_owedBy_2 : decode cX4_owedBy 2 = .ok (.getfield 15, 3) := by decide +kernel
theorem dX4_owedBy_5 : decode cX4_owedBy 5 = .ok (.iload_n 1, 1) := by decide +kernel
theorem dX4_owedBy_6 : decode cX4_owedBy 6 = .ok (.invokevirtual 31, 3) := by decide +kernel
theorem dX4_owedBy_9 : decode cX4_owedBy 9 = .ok (.ireturn, 1) := by decide +kernel
theorem dX4_owedTo_0 : decode cX4_owedTo 0 = .ok (.aload_n 0, 1) := by decide +kernel
theorem dX4_owedTo_1 : decode cX4_owedTo 1 = .ok (.aload_n 0, 1) := by decide +kernel
theorem dX4_owedTo_2 : decode cX4_owedTo 2 = .ok (.getfield 9, 3) := by decide +kernel
theorem dX4_owedTo_5 : decode cX4_owedTo 5 = .ok (.iload_n 1, 1) := by decide +kernel
theorem dX4_owedTo_6 : decode cX4_owedTo 6 = .ok (.invokevirtual 31, 3) := by decide +kernel
theorem dX4_owedTo_9 : decode cX4_owedTo 9 = .ok (.ireturn, 1) := by decide +kernel
theorem dX4_sumOwed_0 : decode cX4_sumOwed 0 = .ok (.iconst 0, 1) := by decide +kernel
theorem dX4_sumOwed_1 : decode cX4_sumOwed 1 = .ok (.istore_n 3, 1) := by decide +kernel
theorem dX4_sumOwed_2 : decode cX4_sumOwed 2 = .ok (.iconst 0, 1) := by decide +kernel
theorem dX4_sumOwed_3 : decode cX4_sumOwed 3 = .ok (.istore 4, 2) := by decide +kernel
theorem dX4_sumOwed_5 : decode cX4_sumOwed 5 = .ok (.iload 4, 2) := by decide +kernel
theorem dX4_sumOwed_7 : decode cX4_sumOwed 7 = .ok (.aload_n 0, 1) := by decide +kernel
theorem dX4_sumOwed_8 : decode cX4_sumOwed 8 = .ok (.getfield 21, 3) := by decide +kernel
theorem dX4_sumOwed_11 : decode cX4_sumOwed 11 = .ok (.if_icmp .ge 31, 3) := by decide +kernel
theorem dX4_sumOwed_14 : decode cX4_sumOwed 14 = .ok (.iload_n 3, 1) := by decide +kernel
theorem dX4_sumOwed_15 : decode cX4_sumOwed 15 = .ok (.aload_n 1, 1) := by decide +kernel
theorem dX4_sumOwed_16 : decode cX4_sumOwed 16 = .ok (.iload 4, 2) := by decide +kernel
theorem dX4_sumOwed_18 : decode cX4_sumOwed 18 = .ok (.iaload, 1) := by decide +kernel
theorem dX4_sumOwed_19 : decode cX4_sumOwed 19 = .ok (.iload_n 2, 1) := by decide +kernel
theorem dX4_sumOwed_20 : decode cX4_sumOwed 20 = .ok (.if_icmp .ne 13, 3) := by decide +kernel
theorem dX4_sumOwed_23 : decode cX4_sumOwed 23 = .ok (.aload_n 0, 1) := by decide +kernel
theorem dX4_sumOwed_24 : decode cX4_sumOwed 24 = .ok (.getfield 18, 3) := by decide +kernel
theorem dX4_sumOwed_27 : decode cX4_sumOwed 27 = .ok (.iload 4, 2) := by decide +kernel
theorem dX4_sumOwed_29 : decode cX4_sumOwed 29 = .ok (.iaload, 1) := by decide +kernel
theorem dX4_sumOwed_30 : decode cX4_sumOwed 30 = .ok (.goto 4, 3) := by decide +kernel
theorem dX4_sumOwed_33 : decode cX4_sumOwed 33 = .ok (.iconst 0, 1) := by decide +kernel
theorem dX4_sumOwed_34 : decode cX4_sumOwed 34 = .ok (.iadd, 1) := by decide +kernel
theorem dX4_sumOwed_35 : decode cX4_sumOwed 35 = .ok (.istore_n 3, 1) := by decide +kernel
theorem dX4_sumOwed_36 : decode cX4_sumOwed 36 = .ok (.iinc 4 1, 3) := by decide +kernel
theorem dX4_sumOwed_39 : decode cX4_sumOwed 39 = .ok (.goto (-34), 3) := by decide +kernel
theorem dX4_sumOwed_42 : decode cX4_sumOwed 42 = .ok (.iload_n 3, 1) := by decide +kernel
theorem dX4_sumOwed_43 : decode cX4_sumOwed 43 = .ok (.ireturn, 1) := by decide +kernel
theorem dX4_removePaid_0 : decode cX4_removePaid 0 = .ok (.aload_n 0, 1) := by decide +kernel
theorem dX4_removePaid_1 : decode cX4_removePaid 1 = .ok (.getfield 21, 3) := by decide +kernel
theorem dX4_removePaid_4 : decode cX4_removePaid 4 = .ok (.iconst 1, 1) := by decide +kernel
theorem dX4_removePaid_5 : decode cX4_removePaid 5 = .ok (.isub, 1) := by decide +kernel
theorem dX4_removePaid_6 : decode cX4_removePaid 6 = .ok (.istore_n 1, 1) := by decide +kernel
theorem dX4_removePaid_7 : decode cX4_removePaid 7 = .ok (.iload_n 1, 1) := by decide +kernel
theorem dX4_removePaid_8 : decode cX4_removePaid 8 = .ok (.ifCond .lt 23, 3) := by decide +kernel
theorem dX4_removePaid_11 : decode cX4_removePaid 11 = .ok (.aload_n 0, 1) := by decide +kernel
theorem dX4_removePaid_12 : decode cX4_removePaid 12 = .ok (.getfield 18, 3) := by decide +kernel
theorem dX4_removePaid_15 : decode cX4_removePaid 15 = .ok (.iload_n 1, 1) := by decide +kernel
theorem dX4_removePaid_16 : decode cX4_removePaid 16 = .ok (.iaload, 1) := by decide +kernel
theorem dX4_removePaid_17 : decode cX4_removePaid 17 = .ok (.ifCond .gt 8, 3) := by decide +kernel
theorem dX4_removePaid_20 : decode cX4_removePaid 20 = .ok (.aload_n 0, 1) := by decide +kernel
theorem dX4_removePaid_21 : decode cX4_removePaid 21 = .ok (.iload_n 1, 1) := by decide +kernel
theorem dX4_removePaid_22 : decode cX4_removePaid 22 = .ok (.invokevirtual 35, 3) := by decide +kernel
theorem dX4_removePaid_25 : decode cX4_removePaid 25 = .ok (.iinc 1 (-1), 3) := by decide +kernel
theorem dX4_removePaid_28 : decode cX4_removePaid 28 = .ok (.goto (-21), 3) := by decide +kernel
theorem dX4_removePaid_31 : decode cX4_removePaid 31 = .ok (.return_, 1) := by decide +kernel
theorem dX4_offset_0 : decode cX4_offset 0 = .ok (.iconst 0, 1) := by decide +kernel
theorem dX4_offset_1 : decode cX4_offset 1 = .ok (.istore_n 1, 1) := by decide +kernel
theorem dX4_offset_2 : decode cX4_offset 2 = .ok (.iconst 0, 1) := by decide +kernel
theorem dX4_offset_3 : decode cX4_offset 3 = .ok (.istore_n 2, 1) := by decide +kernel
theorem dX4_offset_4 : decode cX4_offset 4 = .ok (.iload_n 2, 1) := by decide +kernel
theorem dX4_offset_5 : decode cX4_offset 5 = .ok (.bipush 12, 2) := by decide +kernel
theorem dX4_offset_7 : decode cX4_offset 7 = .ok (.if_icmp .ge 78, 3) := by decide +kernel
theorem dX4_offset_10 : decode cX4_offset 10 = .ok (.aload_n 0, 1) := by decide +kernel
theorem dX4_offset_11 : decode cX4_offset 11 = .ok (.invokevirtual 39, 3) := by decide +kernel
theorem dX4_offset_14 : decode cX4_offset 14 = .ok (.istore_n 3, 1) := by decide +kernel
theorem dX4_offset_15 : decode cX4_offset 15 = .ok (.aload_n 0, 1) := by decide +kernel
theorem dX4_offset_16 : decode cX4_offset 16 = .ok (.iload_n 3, 1) := by decide +kernel
theorem dX4_offset_17 : decode cX4_offset 17 = .ok (.invokevirtual 43, 3) := by decide +kernel
theorem dX4_offset_20 : decode cX4_offset 20 = .ok (.istore 4, 2) := by decide +kernel
theorem dX4_offset_22 : decode cX4_offset 22 = .ok (.iload 4, 2) := by decide +kernel
theorem dX4_offset_24 : decode cX4_offset 24 = .ok (.ifCond .ge 5, 3) := by decide +kernel
theorem dX4_offset_27 : decode cX4_offset 27 = .ok (.iload_n 1, 1) := by decide +kernel
theorem dX4_offset_28 : decode cX4_offset 28 = .ok (.ireturn, 1) := by decide +kernel
theorem dX4_offset_29 : decode cX4_offset 29 = .ok (.aload_n 0, 1) := by decide +kernel
theorem dX4_offset_30 : decode cX4_offset 30 = .ok (.getfield 18, 3) := by decide +kernel
theorem dX4_offset_33 : decode cX4_offset 33 = .ok (.iload_n 3, 1) := by decide +kernel
theorem dX4_offset_34 : decode cX4_offset 34 = .ok (.iaload, 1) := by decide +kernel
theorem dX4_offset_35 : decode cX4_offset 35 = .ok (.aload_n 0, 1) := by decide +kernel
theorem dX4_offset_36 : decode cX4_offset 36 = .ok (.getfield 18, 3) := by decide +kernel
theorem dX4_offset_39 : decode cX4_offset 39 = .ok (.iload 4, 2) := by decide +kernel
theorem dX4_offset_41 : decode cX4_offset 41 = .ok (.iaload, 1) := by decide +kernel
theorem dX4_offset_42 : decode cX4_offset 42 = .ok (.invokestatic 47, 3) := by decide +kernel
theorem dX4_offset_45 : decode cX4_offset 45 = .ok (.istore 5, 2) := by decide +kernel
theorem dX4_offset_47 : decode cX4_offset 47 = .ok (.aload_n 0, 1) := by decide +kernel
theorem dX4_offset_48 : decode cX4_offset 48 = .ok (.getfield 18, 3) := by decide +kernel
theorem dX4_offset_51 : decode cX4_offset 51 = .ok (.iload_n 3, 1) := by decide +kernel
theorem dX4_offset_52 : decode cX4_offset 52 = .ok (.dup2, 1) := by decide +kernel
theorem dX4_offset_53 : decode cX4_offset 53 = .ok (.iaload, 1) := by decide +kernel
theorem dX4_offset_54 : decode cX4_offset 54 = .ok (.iload 5, 2) := by decide +kernel
theorem dX4_offset_56 : decode cX4_offset 56 = .ok (.isub, 1) := by decide +kernel
theorem dX4_offset_57 : decode cX4_offset 57 = .ok (.iastore, 1) := by decide +kernel
theorem dX4_offset_58 : decode cX4_offset 58 = .ok (.aload_n 0, 1) := by decide +kernel
theorem dX4_offset_59 : decode cX4_offset 59 = .ok (.getfield 18, 3) := by decide +kernel
theorem dX4_offset_62 : decode cX4_offset 62 = .ok (.iload 4, 2) := by decide +kernel
theorem dX4_offset_64 : decode cX4_offset 64 = .ok (.dup2, 1) := by decide +kernel
theorem dX4_offset_65 : decode cX4_offset 65 = .ok (.iaload, 1) := by decide +kernel
theorem dX4_offset_66 : decode cX4_offset 66 = .ok (.iload 5, 2) := by decide +kernel
theorem dX4_offset_68 : decode cX4_offset 68 = .ok (.isub, 1) := by decide +kernel
theorem dX4_offset_69 : decode cX4_offset 69 = .ok (.iastore, 1) := by decide +kernel
theorem dX4_offset_70 : decode cX4_offset 70 = .ok (.iload_n 1, 1) := by decide +kernel
theorem dX4_offset_71 : decode cX4_offset 71 = .ok (.iload 5, 2) := by decide +kernel
theorem dX4_offset_73 : decode cX4_offset 73 = .ok (.iadd, 1) := by decide +kernel
theorem dX4_offset_74 : decode cX4_offset 74 = .ok (.istore_n 1, 1) := by decide +kernel
theorem dX4_offset_75 : decode cX4_offset 75 = .ok (.aload_n 0, 1) := by decide +kernel
theorem dX4_offset_76 : decode cX4_offset 76 = .ok (.invokevirtual 53, 3) := by decide +kernel
theorem dX4_offset_79 : decode cX4_offset 79 = .ok (.iinc 2 1, 3) := by decide +kernel
theorem dX4_offset_82 : decode cX4_offset 82 = .ok (.goto (-78), 3) := by decide +kernel
theorem dX4_offset_85 : decode cX4_offset 85 = .ok (.iload_n 1, 1) := by decide +kernel
theorem dX4_offset_86 : decode cX4_offset 86 = .ok (.ireturn, 1) := by decide +kernel
theorem dX4_firstOpposed_0 : decode cX4_firstOpposed 0 = .ok (.iconst 0, 1) := by decide +kernel
theorem dX4_firstOpposed_1 : decode cX4_firstOpposed 1 = .ok (.istore_n 1, 1) := by decide +kernel
theorem dX4_firstOpposed_2 : decode cX4_firstOpposed 2 = .ok (.iload_n 1, 1) := by decide +kernel
theorem dX4_firstOpposed_3 : decode cX4_firstOpposed 3 = .ok (.aload_n 0, 1) := by decide +kernel
theorem dX4_firstOpposed_4 : decode cX4_firstOpposed 4 = .ok (.getfield 21, 3) := by decide +kernel
theorem dX4_firstOpposed_7 : decode cX4_firstOpposed 7 = .ok (.if_icmp .ge 19, 3) := by decide +kernel
theorem dX4_firstOpposed_10 : decode cX4_firstOpposed 10 = .ok (.aload_n 0, 1) := by decide +kernel
theorem dX4_firstOpposed_11 : decode cX4_firstOpposed 11 = .ok (.iload_n 1, 1) := by decide +kernel
theorem dX4_firstOpposed_12 : decode cX4_firstOpposed 12 = .ok (.invokevirtual 43, 3) := by decide +kernel
theorem dX4_firstOpposed_15 : decode cX4_firstOpposed 15 = .ok (.ifCond .lt 5, 3) := by decide +kernel
theorem dX4_firstOpposed_18 : decode cX4_firstOpposed 18 = .ok (.iload_n 1, 1) := by decide +kernel
theorem dX4_firstOpposed_19 : decode cX4_firstOpposed 19 = .ok (.ireturn, 1) := by decide +kernel
theorem dX4_firstOpposed_20 : decode cX4_firstOpposed 20 = .ok (.iinc 1 1, 3) := by decide +kernel
theorem dX4_firstOpposed_23 : decode cX4_firstOpposed 23 = .ok (.goto (-21), 3) := by decide +kernel
theorem dX4_firstOpposed_26 : decode cX4_firstOpposed 26 = .ok (.iconst (-1), 1) := by decide +kernel
theorem dX4_firstOpposed_27 : decode cX4_firstOpposed 27 = .ok (.ireturn, 1) := by decide +kernel
theorem dX4_opposedTo_0 : decode cX4_opposedTo 0 = .ok (.iload_n 1, 1) := by decide +kernel
theorem dX4_opposedTo_1 : decode cX4_opposedTo 1 = .ok (.ifCond .ge 5, 3) := by decide +kernel
theorem dX4_opposedTo_4 : decode cX4_opposedTo 4 = .ok (.iconst (-1), 1) := by decide +kernel
theorem dX4_opposedTo_5 : decode cX4_opposedTo 5 = .ok (.ireturn, 1) := by decide +kernel
theorem dX4_opposedTo_6 : decode cX4_opposedTo 6 = .ok (.iload_n 1, 1) := by decide +kernel
theorem dX4_opposedTo_7 : decode cX4_opposedTo 7 = .ok (.iconst 1, 1) := by decide +kernel
theorem dX4_opposedTo_8 : decode cX4_opposedTo 8 = .ok (.iadd, 1) := by decide +kernel
theorem dX4_opposedTo_9 : decode cX4_opposedTo 9 = .ok (.istore_n 2, 1) := by decide +kernel
theorem dX4_opposedTo_10 : decode cX4_opposedTo 10 = .ok (.iload_n 2, 1) := by decide +kernel
theorem dX4_opposedTo_11 : decode cX4_opposedTo 11 = .ok (.aload_n 0, 1) := by decide +kernel
theorem dX4_opposedTo_12 : decode cX4_opposedTo 12 = .ok (.getfield 21, 3) := by decide +kernel
theorem dX4_opposedTo_15 : decode cX4_opposedTo 15 = .ok (.if_icmp .ge 41, 3) := by decide +kernel
theorem dX4_opposedTo_18 : decode cX4_opposedTo 18 = .ok (.aload_n 0, 1) := by decide +kernel
theorem dX4_opposedTo_19 : decode cX4_opposedTo 19 = .ok (.getfield 9, 3) := by decide +kernel
theorem dX4_opposedTo_22 : decode cX4_opposedTo 22 = .ok (.iload_n 2, 1) := by decide +kernel
theorem dX4_opposedTo_23 : decode cX4_opposedTo 23 = .ok (.iaload, 1) := by decide +kernel
theorem dX4_opposedTo_24 : decode cX4_opposedTo 24 = .ok (.aload_n 0, 1) := by decide +kernel
theorem dX4_opposedTo_25 : decode cX4_opposedTo 25 = .ok (.getfield 15, 3) := by decide +kernel
theorem dX4_opposedTo_28 : decode cX4_opposedTo 28 = .ok (.iload_n 1, 1) := by decide +kernel
theorem dX4_opposedTo_29 : decode cX4_opposedTo 29 = .ok (.iaload, 1) := by decide +kernel
theorem dX4_opposedTo_30 : decode cX4_opposedTo 30 = .ok (.if_icmp .ne 20, 3) := by decide +kernel
theorem dX4_opposedTo_33 : decode cX4_opposedTo 33 = .ok (.aload_n 0, 1) := by decide +kernel
theorem dX4_opposedTo_34 : decode cX4_opposedTo 34 = .ok (.getfield 15, 3) := by decide +kernel
theorem dX4_opposedTo_37 : decode cX4_opposedTo 37 = .ok (.iload_n 2, 1) := by decide +kernel
theorem dX4_opposedTo_38 : decode cX4_opposedTo 38 = .ok (.iaload, 1) := by decide +kernel
theorem dX4_opposedTo_39 : decode cX4_opposedTo 39 = .ok (.aload_n 0, 1) := by decide +kernel
theorem dX4_opposedTo_40 : decode cX4_opposedTo 40 = .ok (.getfield 9, 3) := by decide +kernel
theorem dX4_opposedTo_43 : decode cX4_opposedTo 43 = .ok (.iload_n 1, 1) := by decide +kernel
theorem dX4_opposedTo_44 : decode cX4_opposedTo 44 = .ok (.iaload, 1) := by decide +kernel
theorem dX4_opposedTo_45 : decode cX4_opposedTo 45 = .ok (.if_icmp .ne 5, 3) := by decide +kernel
theorem dX4_opposedTo_48 : decode cX4_opposedTo 48 = .ok (.iload_n 2, 1) := by decide +kernel
theorem dX4_opposedTo_49 : decode cX4_opposedTo 49 = .ok (.ireturn, 1) := by decide +kernel
theorem dX4_opposedTo_50 : decode cX4_opposedTo 50 = .ok (.iinc 2 1, 3) := by decide +kernel
theorem dX4_opposedTo_53 : decode cX4_opposedTo 53 = .ok (.goto (-43), 3) := by decide +kernel
theorem dX4_opposedTo_56 : decode cX4_opposedTo 56 = .ok (.iconst (-1), 1) := by decide +kernel
theorem dX4_opposedTo_57 : decode cX4_opposedTo 57 = .ok (.ireturn, 1) := by decide +kernel
theorem dJxe99ae_isNaN_b9ae7_0 : decode cJxe99ae_isNaN_b9ae7 0 = .ok (.dload_n 0, 1) := by decide +kernel
theorem dJxe99ae_isNaN_b9ae7_1 : decode cJxe99ae_isNaN_b9ae7 1 = .ok (.dload_n 0, 1) := by decide +kernel
theorem dJxe99ae_isNaN_b9ae7_2 : decode cJxe99ae_isNaN_b9ae7 2 = .ok (.dcmp .l, 1) := by decide +kernel
theorem dJxe99ae_isNaN_b9ae7_3 : decode cJxe99ae_isNaN_b9ae7 3 = .ok (.ifCond .eq 7, 3) := by decide +kernel
theorem dJxe99ae_isNaN_b9ae7_6 : decode cJxe99ae_isNaN_b9ae7 6 = .ok (.iconst 1, 1) := by decide +kernel
theorem dJxe99ae_isNaN_b9ae7_7 : decode cJxe99ae_isNaN_b9ae7 7 = .ok (.goto 4, 3) := by decide +kernel
theorem dJxe99ae_isNaN_b9ae7_10 : decode cJxe99ae_isNaN_b9ae7 10 = .ok (.iconst 0, 1) := by decide +kernel
theorem dJxe99ae_isNaN_b9ae7_11 : decode cJxe99ae_isNaN_b9ae7 11 = .ok (.ireturn, 1) := by decide +kernel
theorem dJxe99ae_doubleToLongBits_ccdee_0 : decode cJxe99ae_doubleToLongBits_ccdee 0 = .ok (.dload_n 0, 1) := by decide +kernel
theorem dJxe99ae_doubleToLongBits_ccdee_1 : decode cJxe99ae_doubleToLongBits_ccdee 1 = .ok (.invokestatic 122, 3) := by decide +kernel
theorem dJxe99ae_doubleToLongBits_ccdee_4 : decode cJxe99ae_doubleToLongBits_ccdee 4 = .ok (.ifCond .ne 8, 3) := by decide +kernel
theorem dJxe99ae_doubleToLongBits_ccdee_7 : decode cJxe99ae_doubleToLongBits_ccdee 7 = .ok (.dload_n 0, 1) := by decide +kernel
theorem dJxe99ae_doubleToLongBits_ccdee_8 : decode cJxe99ae_doubleToLongBits_ccdee 8 = .ok (.invokestatic 134, 3) := by decide +kernel
theorem dJxe99ae_doubleToLongBits_ccdee_11 : decode cJxe99ae_doubleToLongBits_ccdee 11 = .ok (.lreturn, 1) := by decide +kernel
theorem dJxe99ae_doubleToLongBits_ccdee_12 : decode cJxe99ae_doubleToLongBits_ccdee 12 = .ok (.ldc2_w 137, 3) := by decide +kernel
theorem dJxe99ae_doubleToLongBits_ccdee_15 : decode cJxe99ae_doubleToLongBits_ccdee 15 = .ok (.lreturn, 1) := by decide +kernel
theorem dJ9_floorMod_7cf53_0 : decode cJ9_floorMod_7cf53 0 = .ok (.iload_n 0, 1) := by decide +kernel
theorem dJ9_floorMod_7cf53_1 : decode cJ9_floorMod_7cf53 1 = .ok (.iload_n 1, 1) := by decide +kernel
theorem dJ9_floorMod_7cf53_2 : decode cJ9_floorMod_7cf53 2 = .ok (.irem, 1) := by decide +kernel
theorem dJ9_floorMod_7cf53_3 : decode cJ9_floorMod_7cf53 3 = .ok (.istore_n 2, 1) := by decide +kernel
theorem dJ9_floorMod_7cf53_4 : decode cJ9_floorMod_7cf53 4 = .ok (.iload_n 0, 1) := by decide +kernel
theorem dJ9_floorMod_7cf53_5 : decode cJ9_floorMod_7cf53 5 = .ok (.iload_n 1, 1) := by decide +kernel
theorem dJ9_floorMod_7cf53_6 : decode cJ9_floorMod_7cf53 6 = .ok (.ixor, 1) := by decide +kernel
theorem dJ9_floorMod_7cf53_7 : decode cJ9_floorMod_7cf53 7 = .ok (.ifCond .ge 11, 3) := by decide +kernel
theorem dJ9_floorMod_7cf53_10 : decode cJ9_floorMod_7cf53 10 = .ok (.iload_n 2, 1) := by decide +kernel
theorem dJ9_floorMod_7cf53_11 : decode cJ9_floorMod_7cf53 11 = .ok (.ifCond .eq 7, 3) := by decide +kernel
theorem dJ9_floorMod_7cf53_14 : decode cJ9_floorMod_7cf53 14 = .ok (.iload_n 2, 1) := by decide +kernel
theorem dJ9_floorMod_7cf53_15 : decode cJ9_floorMod_7cf53 15 = .ok (.iload_n 1, 1) := by decide +kernel
theorem dJ9_floorMod_7cf53_16 : decode cJ9_floorMod_7cf53 16 = .ok (.iadd, 1) := by decide +kernel
theorem dJ9_floorMod_7cf53_17 : decode cJ9_floorMod_7cf53 17 = .ok (.ireturn, 1) := by decide +kernel
theorem dJ9_floorMod_7cf53_18 : decode cJ9_floorMod_7cf53 18 = .ok (.iload_n 2, 1) := by decide +kernel
theorem dJ9_floorMod_7cf53_19 : decode cJ9_floorMod_7cf53 19 = .ok (.ireturn, 1) := by decide +kernel
theorem dJ9_max_7cf53_0 : decode cJ9_max_7cf53 0 = .ok (.iload_n 0, 1) := by decide +kernel
theorem dJ9_max_7cf53_1 : decode cJ9_max_7cf53 1 = .ok (.iload_n 1, 1) := by decide +kernel
theorem dJ9_max_7cf53_2 : decode cJ9_max_7cf53 2 = .ok (.if_icmp .lt 7, 3) := by decide +kernel
theorem dJ9_max_7cf53_5 : decode cJ9_max_7cf53 5 = .ok (.iload_n 0, 1) := by decide +kernel
theorem dJ9_max_7cf53_6 : decode cJ9_max_7cf53 6 = .ok (.goto 4, 3) := by decide +kernel
theorem dJ9_max_7cf53_9 : decode cJ9_max_7cf53 9 = .ok (.iload_n 1, 1) := by decide +kernel
theorem dJ9_max_7cf53_10 : decode cJ9_max_7cf53 10 = .ok (.ireturn, 1) := by decide +kernel
theorem dJ9_min_7cf53_0 : decode cJ9_min_7cf53 0 = .ok (.iload_n 0, 1) := by decide +kernel
theorem dJ9_min_7cf53_1 : decode cJ9_min_7cf53 1 = .ok (.iload_n 1, 1) := by decide +kernel
theorem dJ9_min_7cf53_2 : decode cJ9_min_7cf53 2 = .ok (.if_icmp .gt 7, 3) := by decide +kernel
theorem dJ9_min_7cf53_5 : decode cJ9_min_7cf53 5 = .ok (.iload_n 0, 1) := by decide +kernel
theorem dJ9_min_7cf53_6 : decode cJ9_min_7cf53 6 = .ok (.goto 4, 3) := by decide +kernel
theorem dJ9_min_7cf53_9 : decode cJ9_min_7cf53 9 = .ok (.iload_n 1, 1) := by decide +kernel
theorem dJ9_min_7cf53_10 : decode cJ9_min_7cf53 10 = .ok (.ireturn, 1) := by decide +kernel
