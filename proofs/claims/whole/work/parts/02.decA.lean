theorem dX0_init_0 : decode cX0_init 0 = .ok (.aload_n 0, 1) := by decide +kernel
theorem dX0_init_1 : decode cX0_init 1 = .ok (.invokespecial 3, 3) := by decide +kernel
theorem dX0_init_4 : decode cX0_init 4 = .ok (.return_, 1) := by decide +kernel
theorem dX0_become_0 : decode cX0_become 0 = .ok (.aload_n 0, 1) := by decide +kernel
theorem dX0_become_1 : decode cX0_become 1 = .ok (.aload_n 1, 1) := by decide +kernel
theorem dX0_become_2 : decode cX0_become 2 = .ok (.getfield 9, 3) := by decide +kernel
theorem dX0_become_5 : decode cX0_become 5 = .ok (.putfield 9, 3) := by decide +kernel
theorem dX0_become_8 : decode cX0_become 8 = .ok (.aload_n 0, 1) := by decide +kernel
theorem dX0_become_9 : decode cX0_become 9 = .ok (.aload_n 1, 1) := by decide +kernel
theorem dX0_become_10 : decode cX0_become 10 = .ok (.getfield 15, 3) := by decide +kernel
theorem dX0_become_13 : decode cX0_become 13 = .ok (.putfield 15, 3) := by decide +kernel
theorem dX0_become_16 : decode cX0_become 16 = .ok (.aload_n 0, 1) := by decide +kernel
theorem dX0_become_17 : decode cX0_become 17 = .ok (.aload_n 1, 1) := by decide +kernel
theorem dX0_become_18 : decode cX0_become 18 = .ok (.getfield 18, 3) := by decide +kernel
theorem dX0_become_21 : decode cX0_become 21 = .ok (.putfield 18, 3) := by decide +kernel
theorem dX0_become_24 : decode cX0_become 24 = .ok (.aload_n 0, 1) := by decide +kernel
theorem dX0_become_25 : decode cX0_become 25 = .ok (.aload_n 1, 1) := by decide +kernel
theorem dX0_become_26 : decode cX0_become 26 = .ok (.getfield 21, 3) := by decide +kernel
theorem dX0_become_29 : decode cX0_become 29 = .ok (.putfield 21, 3) := by decide +kernel
theorem dX0_become_32 : decode cX0_become 32 = .ok (.return_, 1) := by decide +kernel
theorem dX0_wants_0 : decode cX0_wants 0 = .ok (.aload_n 0, 1) := by decide +kernel
theorem dX0_wants_1 : decode cX0_wants 1 = .ok (.getfield 9, 3) := by decide +kernel
theorem dX0_wants_4 : decode cX0_wants 4 = .ok (.tableswitch 84 1 5 #[36, 51, 36, 66, 79], 36) := by decide +kernel
theorem dX0_wants_40 : decode cX0_wants 40 = .ok (.aload_n 1, 1) := by decide +kernel
theorem dX0_wants_41 : decode cX0_wants 41 = .ok (.aload_n 0, 1) := by decide +kernel
theorem dX0_wants_42 : decode cX0_wants 42 = .ok (.getfield 15, 3) := by decide +kernel
theorem dX0_wants_45 : decode cX0_wants 45 = .ok (.aload_n 0, 1) := by decide +kernel
theorem dX0_wants_46 : decode cX0_wants 46 = .ok (.getfield 18, 3) := by decide +kernel
theorem dX0_wants_49 : decode cX0_wants 49 = .ok (.invokevirtual 24, 3) := by decide +kernel
theorem dX0_wants_52 : decode cX0_wants 52 = .ok (.iconst 1, 1) := by decide +kernel
theorem dX0_wants_53 : decode cX0_wants 53 = .ok (.iadd, 1) := by decide +kernel
theorem dX0_wants_54 : decode cX0_wants 54 = .ok (.ireturn, 1) := by decide +kernel
theorem dX0_wants_55 : decode cX0_wants 55 = .ok (.aload_n 1, 1) := by decide +kernel
theorem dX0_wants_56 : decode cX0_wants 56 = .ok (.aload_n 0, 1) := by decide +kernel
theorem dX0_wants_57 : decode cX0_wants 57 = .ok (.getfield 15, 3) := by decide +kernel
theorem dX0_wants_60 : decode cX0_wants 60 = .ok (.aload_n 0, 1) := by decide +kernel
theorem dX0_wants_61 : decode cX0_wants 61 = .ok (.getfield 18, 3) := by decide +kernel
theorem dX0_wants_64 : decode cX0_wants 64 = .ok (.invokevirtual 24, 3) := by decide +kernel
theorem dX0_wants_67 : decode cX0_wants 67 = .ok (.iconst 2, 1) := by decide +kernel
theorem dX0_wants_68 : decode cX0_wants 68 = .ok (.iadd, 1) := by decide +kernel
theorem dX0_wants_69 : decode cX0_wants 69 = .ok (.ireturn, 1) := by decide +kernel
theorem dX0_wants_70 : decode cX0_wants 70 = .ok (.aload_n 1, 1) := by decide +kernel
theorem dX0_wants_71 : decode cX0_wants 71 = .ok (.aload_n 0, 1) := by decide +kernel
theorem dX0_wants_72 : decode cX0_wants 72 = .ok (.getfield 15, 3) := by decide +kernel
theorem dX0_wants_75 : decode cX0_wants 75 = .ok (.aload_n 0, 1) := by decide +kernel
theorem dX0_wants_76 : decode cX0_wants 76 = .ok (.getfield 18, 3) := by decide +kernel
theorem dX0_wants_79 : decode cX0_wants 79 = .ok (.invokevirtual 30, 3) := by decide +kernel
theorem dX0_wants_82 : decode cX0_wants 82 = .ok (.ireturn, 1) := by decide +kernel
theorem dX0_wants_83 : decode cX0_wants 83 = .ok (.aload_n 0, 1) := by decide +kernel
theorem dX0_wants_84 : decode cX0_wants 84 = .ok (.getfield 21, 3) := by decide +kernel
theorem dX0_wants_87 : decode cX0_wants 87 = .ok (.ireturn, 1) := by decide +kernel
theorem dX0_wants_88 : decode cX0_wants 88 = .ok (.aload_n 1, 1) := by decide +kernel
theorem dX0_wants_89 : decode cX0_wants 89 = .ok (.aload_n 0, 1) := by decide +kernel
theorem dX0_wants_90 : decode cX0_wants 90 = .ok (.getfield 15, 3) := by decide +kernel
theorem dX0_wants_93 : decode cX0_wants 93 = .ok (.aload_n 0, 1) := by decide +kernel
theorem dX0_wants_94 : decode cX0_wants 94 = .ok (.getfield 18, 3) := by decide +kernel
theorem dX0_wants_97 : decode cX0_wants 97 = .ok (.invokevirtual 24, 3) := by decide +kernel
theorem dX0_wants_100 : decode cX0_wants 100 = .ok (.ireturn, 1) := by decide +kernel
theorem dX0_takes_0 : decode cX0_takes 0 = .ok (.aload_n 0, 1) := by decide +kernel
theorem dX0_takes_1 : decode cX0_takes 1 = .ok (.getfield 9, 3) := by decide +kernel
theorem dX0_takes_4 : decode cX0_takes 4 = .ok (.lookupswitch 58 #[(3, 28), (4, 45)], 28) := by decide +kernel
theorem dX0_takes_32 : decode cX0_takes 32 = .ok (.aload_n 1, 1) := by decide +kernel
theorem dX0_takes_33 : decode cX0_takes 33 = .ok (.aload_n 0, 1) := by decide +kernel
theorem dX0_takes_34 : decode cX0_takes 34 = .ok (.getfield 15, 3) := by decide +kernel
theorem dX0_takes_37 : decode cX0_takes 37 = .ok (.aload_n 0, 1) := by decide +kernel
theorem dX0_takes_38 : decode cX0_takes 38 = .ok (.getfield 18, 3) := by decide +kernel
theorem dX0_takes_41 : decode cX0_takes 41 = .ok (.invokevirtual 30, 3) := by decide +kernel
theorem dX0_takes_44 : decode cX0_takes 44 = .ok (.iconst 1, 1) := by decide +kernel
theorem dX0_takes_45 : decode cX0_takes 45 = .ok (.iadd, 1) := by decide +kernel
theorem dX0_takes_46 : decode cX0_takes 46 = .ok (.iconst 2, 1) := by decide +kernel
theorem dX0_takes_47 : decode cX0_takes 47 = .ok (.idiv, 1) := by decide +kernel
theorem dX0_takes_48 : decode cX0_takes 48 = .ok (.ireturn, 1) := by decide +kernel
theorem dX0_takes_49 : decode cX0_takes 49 = .ok (.aload_n 1, 1) := by decide +kernel
theorem dX0_takes_50 : decode cX0_takes 50 = .ok (.aload_n 0, 1) := by decide +kernel
theorem dX0_takes_51 : decode cX0_takes 51 = .ok (.getfield 15, 3) := by decide +kernel
theorem dX0_takes_54 : decode cX0_takes 54 = .ok (.aload_n 0, 1) := by decide +kernel
theorem dX0_takes_55 : decode cX0_takes 55 = .ok (.getfield 18, 3) := by decide +kernel
theorem dX0_takes_58 : decode cX0_takes 58 = .ok (.invokevirtual 24, 3) := by decide +kernel
theorem dX0_takes_61 : decode cX0_takes 61 = .ok (.ireturn, 1) := by decide +kernel
theorem dX0_takes_62 : decode cX0_takes 62 = .ok (.aload_n 1, 1) := by decide +kernel
theorem dX0_takes_63 : decode cX0_takes 63 = .ok (.aload_n 0, 1) := by decide +kernel
theorem dX0_takes_64 : decode cX0_takes 64 = .ok (.getfield 15, 3) := by decide +kernel
theorem dX0_takes_67 : decode cX0_takes 67 = .ok (.aload_n 0, 1) := by decide +kernel
theorem dX0_takes_68 : decode cX0_takes 68 = .ok (.getfield 18, 3) := by decide +kernel
theorem dX0_takes_71 : decode cX0_takes 71 = .ok (.invokevirtual 30, 3) := by decide +kernel
theorem dX0_takes_74 : decode cX0_takes 74 = .ok (.ireturn, 1) := by decide +kernel
theorem dX0_worth_0 : decode cX0_worth 0 = .ok (.aload_n 0, 1) := by decide +kernel
theorem dX0_worth_1 : decode cX0_worth 1 = .ok (.getfield 18, 3) := by decide +kernel
theorem dX0_worth_4 : decode cX0_worth 4 = .ok (.aload_n 0, 1) := by decide +kernel
theorem dX0_worth_5 : decode cX0_worth 5 = .ok (.getfield 15, 3) := by decide +kernel
theorem dX0_worth_8 : decode cX0_worth 8 = .ok (.isub, 1) := by decide +kernel
theorem dX0_worth_9 : decode cX0_worth 9 = .ok (.iconst 1, 1) := by decide +kernel
theorem dX0_worth_10 : decode cX0_worth 10 = .ok (.iadd, 1) := by decide +kernel
theorem dX0_worth_11 : decode cX0_worth 11 = .ok (.istore_n 1, 1) := by decide +kernel
theorem dX0_worth_12 : decode cX0_worth 12 = .ok (.aload_n 0, 1) := by decide +kernel
theorem dX0_worth_13 : decode cX0_worth 13 = .ok (.getfield 9, 3) := by decide +kernel
theorem dX0_worth_16 : decode cX0_worth 16 = .ok (.tableswitch 63 1 5 #[36, 63, 43, 52, 56], 36) := by decide +kernel
theorem dX0_worth_52 : decode cX0_worth 52 = .ok (.iload_n 1, 1) := by decide +kernel
theorem dX0_worth_53 : decode cX0_worth 53 = .ok (.aload_n 0, 1) := by decide +kernel
theorem dX0_worth_54 : decode cX0_worth 54 = .ok (.getfield 21, 3) := by decide +kernel
theorem dX0_worth_57 : decode cX0_worth 57 = .ok (.iadd, 1) := by decide +kernel
theorem dX0_worth_58 : decode cX0_worth 58 = .ok (.ireturn, 1) := by decide +kernel
theorem dX0_worth_59 : decode cX0_worth 59 = .ok (.iload_n 1, 1) := by decide +kernel
theorem dX0_worth_60 : decode cX0_worth 60 = .ok (.aload_n 0, 1) := by decide +kernel
theorem dX0_worth_61 : decode cX0_worth 61 = .ok (.getfield 21, 3) := by decide +kernel
theorem dX0_worth_64 : decode cX0_worth 64 = .ok (.iadd, 1) := by decide +kernel
theorem dX0_worth_65 : decode cX0_worth 65 = .ok (.iconst 3, 1) := by decide +kernel
theorem dX0_worth_66 : decode cX0_worth 66 = .ok (.iadd, 1) := by decide +kernel
theorem dX0_worth_67 : decode cX0_worth 67 = .ok (.ireturn, 1) := by decide +kernel
theorem dX0_worth_68 : decode cX0_worth 68 = .ok (.iconst 2, 1) := by decide +kernel
theorem dX0_worth_69 : decode cX0_worth 69 = .ok (.iload_n 1, 1) := by decide +kernel
theorem dX0_worth_70 : decode cX0_worth 70 = .ok (.imul, 1) := by decide +kernel
theorem dX0_worth_71 : decode cX0_worth 71 = .ok (.ireturn, 1) := by decide +kernel
theorem dX0_worth_72 : decode cX0_worth 72 = .ok (.aload_n 0, 1) := by decide +kernel
theorem dX0_worth_73 : decode cX0_worth 73 = .ok (.getfield 21, 3) := by decide +kernel
theorem dX0_worth_76 : decode cX0_worth 76 = .ok (.iconst 1, 1) := by decide +kernel
theorem dX0_worth_77 : decode cX0_worth 77 = .ok (.isub, 1) := by decide +kernel
theorem dX0_worth_78 : decode cX0_worth 78 = .ok (.ireturn, 1) := by decide +kernel
theorem dX0_worth_79 : decode cX0_worth 79 = .ok (.iload_n 1, 1) := by decide +kernel
theorem dX0_worth_80 : decode cX0_worth 80 = .ok (.ireturn, 1) := by decide +kernel
theorem dX0_isGood_0 : decode cX0_isGood 0 = .ok (.aload_n 1, 1) := by decide +kernel
theorem dX0_isGood_1 : decode cX0_isGood 1 = .ok (.aload_n 0, 1) := by decide +kernel
theorem dX0_isGood_2 : decode cX0_isGood 2 = .ok (.getfield 18, 3) := by decide +kernel
theorem dX0_isGood_5 : decode cX0_isGood 5 = .ok (.iconst 1, 1) := by decide +kernel
theorem dX0_isGood_6 : decode cX0_isGood 6 = .ok (.iadd, 1) := by decide +kernel
theorem dX0_isGood_7 : decode cX0_isGood 7 = .ok (.invokevirtual 33, 3) := by decide +kernel
theorem dX0_isGood_10 : decode cX0_isGood 10 = .ok (.ifCond .eq 19, 3) := by decide +kernel
theorem dX0_isGood_13 : decode cX0_isGood 13 = .ok (.aload_n 1, 1) := by decide +kernel
theorem dX0_isGood_14 : decode cX0_isGood 14 = .ok (.getfield 37, 3) := by decide +kernel
theorem dX0_isGood_17 : decode cX0_isGood 17 = .ok (.aload_n 0, 1) := by decide +kernel
theorem dX0_isGood_18 : decode cX0_isGood 18 = .ok (.getfield 18, 3) := by decide +kernel
theorem dX0_isGood_21 : decode cX0_isGood 21 = .ok (.baload, 1) := by decide +kernel
theorem dX0_isGood_22 : decode cX0_isGood 22 = .ok (.ifCond .eq 7, 3) := by decide +kernel
theorem dX0_isGood_25 : decode cX0_isGood 25 = .ok (.iconst 1, 1) := by decide +kernel
theorem dX0_isGood_26 : decode cX0_isGood 26 = .ok (.goto 4, 3) := by decide +kernel
theorem dX0_isGood_29 : decode cX0_isGood 29 = .ok (.iconst 0, 1) := by decide +kernel
theorem dX0_isGood_30 : decode cX0_isGood 30 = .ok (.istore_n 2, 1) := by decide +kernel
theorem dX0_isGood_31 : decode cX0_isGood 31 = .ok (.aload_n 1, 1) := by decide +kernel
theorem dX0_isGood_32 : decode cX0_isGood 32 = .ok (.aload_n 0, 1) := by decide +kernel
theorem dX0_isGood_33 : decode cX0_isGood 33 = .ok (.getfield 15, 3) := by decide +kernel
theorem dX0_isGood_36 : decode cX0_isGood 36 = .ok (.iconst 1, 1) := by decide +kernel
theorem dX0_isGood_37 : decode cX0_isGood 37 = .ok (.isub, 1) := by decide +kernel
theorem dX0_isGood_38 : decode cX0_isGood 38 = .ok (.invokevirtual 33, 3) := by decide +kernel
theorem dX0_isGood_41 : decode cX0_isGood 41 = .ok (.ifCond .eq 21, 3) := by decide +kernel
theorem dX0_isGood_44 : decode cX0_isGood 44 = .ok (.aload_n 1, 1) := by decide +kernel
theorem dX0_isGood_45 : decode cX0_isGood 45 = .ok (.getfield 37, 3) := by decide +kernel
theorem dX0_isGood_48 : decode cX0_isGood 48 = .ok (.aload_n 0, 1) := by decide +kernel
theorem dX0_isGood_49 : decode cX0_isGood 49 = .ok (.getfield 15, 3) := by decide +kernel
theorem dX0_isGood_52 : decode cX0_isGood 52 = .ok (.iconst 1, 1) := by decide +kernel
theorem dX0_isGood_53 : decode cX0_isGood 53 = .ok (.isub, 1) := by decide +kernel
theorem dX0_isGood_54 : decode cX0_isGood 54 = .ok (.baload, 1) := by decide +kernel
theorem dX0_isGood_55 : decode cX0_isGood 55 = .ok (.ifCond .eq 7, 3) := by decide +kernel
theorem dX0_isGood_58 : decode cX0_isGood 58 = .ok (.iconst 1, 1) := by decide +kernel
theorem dX0_isGood_59 : decode cX0_isGood 59 = .ok (.goto 4, 3) := by decide +kernel
theorem dX0_isGood_62 : decode cX0_isGood 62 = .ok (.iconst 0, 1) := by decide +kernel
theorem dX0_isGood_63 : decode cX0_isGood 63 = .ok (.istore_n 3, 1) := by decide +kernel
theorem dX0_isGood_64 : decode cX0_isGood 64 = .ok (.aload_n 0, 1) := by decide +kernel
theorem dX0_isGood_65 : decode cX0_isGood 65 = .ok (.aload_n 1, 1) := by decide +kernel
theorem dX0_isGood_66 : decode cX0_isGood 66 = .ok (.invokevirtual 41, 3) := by decide +kernel
theorem dX0_isGood_69 : decode cX0_isGood 69 = .ok (.aload_n 1, 1) := by decide +kernel
theorem dX0_isGood_70 : decode cX0_isGood 70 = .ok (.getfield 45, 3) := by decide +kernel
theorem dX0_isGood_73 : decode cX0_isGood 73 = .ok (.if_icmp .gt 15, 3) := by decide +kernel
theorem dX0_isGood_76 : decode cX0_isGood 76 = .ok (.iload_n 2, 1) := by decide +kernel
theorem dX0_isGood_77 : decode cX0_isGood 77 = .ok (.ifCond .ne 11, 3) := by decide +kernel
theorem dX0_isGood_80 : decode cX0_isGood 80 = .ok (.iload_n 3, 1) := by decide +kernel
theorem dX0_isGood_81 : decode cX0_isGood 81 = .ok (.ifCond .ne 7, 3) := by decide +kernel
theorem dX0_isGood_84 : decode cX0_isGood 84 = .ok (.iconst 1, 1) := by decide +kernel
theorem dX0_isGood_85 : decode cX0_isGood 85 = .ok (.goto 4, 3) := by decide +kernel
theorem dX0_isGood_88 : decode cX0_isGood 88 = .ok (.iconst 0, 1) := by decide +kernel
theorem dX0_isGood_89 : decode cX0_isGood 89 = .ok (.ireturn, 1) := by decide +kernel
theorem dX1_init_0 : decode cX1_init 0 = .ok (.aload_n 0, 1) := by decide +kernel
theorem dX1_init_1 : decode cX1_init 1 = .ok (.invokespecial 1, 3) := by decide +kernel
theorem dX1_init_4 : decode cX1_init 4 = .ok (.aload_n 0, 1) := by decide +kernel
theorem dX1_init_5 : decode cX1_init 5 = .ok (.iload_n 1, 1) := by decide +kernel
theorem dX1_init_6 : decode cX1_init 6 = .ok (.putfield 7, 3) := by decide +kernel
theorem dX1_init_9 : decode cX1_init 9 = .ok (.aload_n 0, 1) := by decide +kernel
theorem dX1_init_10 : decode cX1_init 10 = .ok (.iload_n 2, 1) := by decide +kernel
theorem dX1_init_11 : decode cX1_init 11 = .ok (.putfield 13, 3) := by decide +kernel
theorem dX1_init_14 : decode cX1_init 14 = .ok (.aload_n 0, 1) := by decide +kernel
theorem dX1_init_15 : decode cX1_init 15 = .ok (.aload_n 3, 1) := by decide +kernel
theorem dX1_init_16 : decode cX1_init 16 = .ok (.putfield 16, 3) := by decide +kernel
theorem dX1_init_19 : decode cX1_init 19 = .ok (.aload_n 0, 1) := by decide +kernel
theorem dX1_init_20 : decode cX1_init 20 = .ok (.iconst 1, 1) := by decide +kernel
theorem dX1_init_21 : decode cX1_init 21 = .ok (.iload_n 2, 1) := by decide +kernel
theorem dX1_init_22 : decode cX1_init 22 = .ok (.invokestatic 20, 3) := by decide +kernel
theorem dX1_init_25 : decode cX1_init 25 = .ok (.newarray .int, 2) := by decide +kernel
theorem dX1_init_27 : decode cX1_init 27 = .ok (.putfield 26, 3) := by decide +kernel
theorem dX1_init_30 : decode cX1_init 30 = .ok (.return_, 1) := by decide +kernel
theorem dX1_gives_0 : decode cX1_gives 0 = .ok (.iconst (-1), 1) := by decide +kernel
theorem dX1_gives_1 : decode cX1_gives 1 = .ok (.istore 4, 2) := by decide +kernel
theorem dX1_gives_3 : decode cX1_gives 3 = .ok (.iconst 0, 1) := by decide +kernel
theorem dX1_gives_4 : decode cX1_gives 4 = .ok (.istore 5, 2) := by decide +kernel
theorem dX1_gives_6 : decode cX1_gives 6 = .ok (.iload 5, 2) := by decide +kernel
theorem dX1_gives_8 : decode cX1_gives 8 = .ok (.aload_n 0, 1) := by decide +kernel
theorem dX1_gives_9 : decode cX1_gives 9 = .ok (.getfield 16, 3) := by decide +kernel
theorem dX1_gives_12 : decode cX1_gives 12 = .ok (.arraylength, 1) := by decide +kernel
theorem dX1_gives_13 : decode cX1_gives 13 = .ok (.if_icmp .ge 133, 3) := by decide +kernel
theorem dX1_gives_16 : decode cX1_gives 16 = .ok (.aload_n 0, 1) := by decide +kernel
theorem dX1_gives_17 : decode cX1_gives 17 = .ok (.getfield 16, 3) := by decide +kernel
theorem dX1_gives_20 : decode cX1_gives 20 = .ok (.iload 5, 2) := by decide +kernel
theorem dX1_gives_22 : decode cX1_gives 22 = .ok (.iaload, 1) := by decide +kernel
theorem dX1_gives_23 : decode cX1_gives 23 = .ok (.istore 6, 2) := by decide +kernel
theorem dX1_gives_25 : decode cX1_gives 25 = .ok (.iload 6, 2) := by decide +kernel
theorem dX1_gives_27 : decode cX1_gives 27 = .ok (.bipush (-3), 2) := by decide +kernel
theorem dX1_gives_29 : decode cX1_gives 29 = .ok (.if_icmp .lt 36, 3) := by decide +kernel
theorem dX1_gives_32 : decode cX1_gives 32 = .ok (.iload 4, 2) := by decide +kernel
theorem dX1_gives_34 : decode cX1_gives 34 = .ok (.iconst 1, 1) := by decide +kernel
theorem dX1_gives_35 : decode cX1_gives 35 = .ok (.iadd, 1) := by decide +kernel
theorem dX1_gives_36 : decode cX1_gives 36 = .ok (.aload_n 0, 1) := by decide +kernel
theorem dX1_gives_37 : decode cX1_gives 37 = .ok (.getfield 26, 3) := by decide +kernel
theorem dX1_gives_40 : decode cX1_gives 40 = .ok (.arraylength, 1) := by decide +kernel
theorem dX1_gives_41 : decode cX1_gives 41 = .ok (.if_icmp .ge 99, 3) := by decide +kernel
theorem dX1_gives_44 : decode cX1_gives 44 = .ok (.iinc 4 1, 3) := by decide +kernel
theorem dX1_gives_47 : decode cX1_gives 47 = .ok (.aload_n 0, 1) := by decide +kernel
theorem dX1_gives_48 : decode cX1_gives 48 = .ok (.getfield 26, 3) := by decide +kernel
theorem dX1_gives_51 : decode cX1_gives 51 = .ok (.iload 4, 2) := by decide +kernel
theorem dX1_gives_53 : decode cX1_gives 53 = .ok (.iload 6, 2) := by decide +kernel
theorem dX1_gives_55 : decode cX1_gives 55 = .ok (.iload_n 1, 1) := by decide +kernel
theorem dX1_gives_56 : decode cX1_gives 56 = .ok (.iload_n 2, 1) := by decide +kernel
theorem dX1_gives_57 : decode cX1_gives 57 = .ok (.iload_n 3, 1) := by decide +kernel
theorem dX1_gives_58 : decode cX1_gives 58 = .ok (.invokestatic 31, 3) := by decide +kernel
theorem dX1_gives_61 : decode cX1_gives 61 = .ok (.iastore, 1) := by decide +kernel
theorem dX1_gives_62 : decode cX1_gives 62 = .ok (.goto 78, 3) := by decide +kernel
theorem dX1_gives_65 : decode cX1_gives 65 = .ok (.iload 6, 2) := by decide +kernel
theorem dX1_gives_67 : decode cX1_gives 67 = .ok (.bipush (-33), 2) := by decide +kernel
theorem dX1_gives_69 : decode cX1_gives 69 = .ok (.if_icmp .ne 33, 3) := by decide +kernel
theorem dX1_gives_72 : decode cX1_gives 72 = .ok (.iload 4, 2) := by decide +kernel
theorem dX1_gives_74 : decode cX1_gives 74 = .ok (.ifCond .lt 66, 3) := by decide +kernel
theorem dX1_gives_77 : decode cX1_gives 77 = .ok (.aload_n 0, 1) := by decide +kernel
theorem dX1_gives_78 : decode cX1_gives 78 = .ok (.getfield 26, 3) := by decide +kernel
theorem dX1_gives_81 : decode cX1_gives 81 = .ok (.iload 4, 2) := by decide +kernel
theorem dX1_gives_83 : decode cX1_gives 83 = .ok (.aload_n 0, 1) := by decide +kernel
theorem dX1_gives_84 : decode cX1_gives 84 = .ok (.getfield 26, 3) := by decide +kernel
theorem dX1_gives_87 : decode cX1_gives 87 = .ok (.iload 4, 2) := by decide +kernel
theorem dX1_gives_89 : decode cX1_gives 89 = .ok (.iaload, 1) := by decide +kernel
theorem dX1_gives_90 : decode cX1_gives 90 = .ok (.ifCond .ne 7, 3) := by decide +kernel
theorem dX1_gives_93 : decode cX1_gives 93 = .ok (.iconst 1, 1) := by decide +kernel
theorem dX1_gives_94 : decode cX1_gives 94 = .ok (.goto 4, 3) := by decide +kernel
theorem dX1_gives_97 : decode cX1_gives 97 = .ok (.iconst 0, 1) := by decide +kernel
theorem dX1_gives_98 : decode cX1_gives 98 = .ok (.iastore, 1) := by decide +kernel
theorem dX1_gives_99 : decode cX1_gives 99 = .ok (.goto 41, 3) := by decide +kernel
theorem dX1_gives_102 : decode cX1_gives 102 = .ok (.iload 4, 2) := by decide +kernel
theorem dX1_gives_104 : decode cX1_gives 104 = .ok (.iconst 1, 1) := by decide +kernel
theorem dX1_gives_105 : decode cX1_gives 105 = .ok (.if_icmp .lt 35, 3) := by decide +kernel
theorem dX1_gives_108 : decode cX1_gives 108 = .ok (.iinc 4 (-1), 3) := by decide +kernel
theorem dX1_gives_111 : decode cX1_gives 111 = .ok (.aload_n 0, 1) := by decide +kernel
theorem dX1_gives_112 : decode cX1_gives 112 = .ok (.getfield 26, 3) := by decide +kernel
theorem dX1_gives_115 : decode cX1_gives 115 = .ok (.iload 4, 2) := by decide +kernel
theorem dX1_gives_117 : decode cX1_gives 117 = .ok (.iload 6, 2) := by decide +kernel
theorem dX1_gives_119 : decode cX1_gives 119 = .ok (.ineg, 1) := by decide +kernel
theorem dX1_gives_120 : decode cX1_gives 120 = .ok (.aload_n 0, 1) := by decide +kernel
theorem dX1_gives_121 : decode cX1_gives 121 = .ok (.getfield 26, 3) := by decide +kernel
theorem dX1_gives_124 : decode cX1_gives 124 = .ok (.iload 4, 2) := by decide +kernel
theorem dX1_gives_126 : decode cX1_gives 126 = .ok (.iaload, 1) := by decide +kernel
theorem dX1_gives_127 : decode cX1_gives 127 = .ok (.aload_n 0, 1) := by decide +kernel
theorem dX1_gives_128 : decode cX1_gives 128 = .ok (.getfield 26, 3) := by decide +kernel
theorem dX1_gives_131 : decode cX1_gives 131 = .ok (.iload 4, 2) := by decide +kernel
theorem dX1_gives_133 : decode cX1_gives 133 = .ok (.iconst 1, 1) := by decide +kernel
theorem dX1_gives_134 : decode cX1_gives 134 = .ok (.iadd, 1) := by decide +kernel
theorem dX1_gives_135 : decode cX1_gives 135 = .ok (.iaload, 1) := by decide +kernel
theorem dX1_gives_136 : decode cX1_gives 136 = .ok (.invokestatic 35, 3) := by decide +kernel
theorem dX1_gives_139 : decode cX1_gives 139 = .ok (.iastore, 1) := by decide +kernel
theorem dX1_gives_140 : decode cX1_gives 140 = .ok (.iinc 5 1, 3) := by decide +kernel
theorem dX1_gives_143 : decode cX1_gives 143 = .ok (.goto (-137), 3) := by decide +kernel
theorem dX1_gives_146 : decode cX1_gives 146 = .ok (.aload_n 0, 1) := by decide +kernel
theorem dX1_gives_147 : decode cX1_gives 147 = .ok (.getfield 26, 3) := by decide +kernel
theorem dX1_gives_150 : decode cX1_gives 150 = .ok (.iconst 0, 1) := by decide +kernel
theorem dX1_gives_151 : decode cX1_gives 151 = .ok (.iaload, 1) := by decide +kernel
theorem dX1_gives_152 : decode cX1_gives 152 = .ok (.ireturn, 1) := by decide +kernel
theorem dX1_operand_0 : decode cX1_operand 0 = .ok (.iload_n 0, 1) := by decide +kernel
theorem dX1_operand_1 : decode cX1_operand 1 = .ok (.tableswitch 33 (-3) (-1) #[31, 29, 27], 27) := by decide +kernel
theorem dX1_operand_28 : decode cX1_operand 28 = .ok (.iload_n 1, 1) := by decide +kernel
theorem dX1_operand_29 : decode cX1_operand 29 = .ok (.ireturn, 1) := by decide +kernel
theorem dX1_operand_30 : decode cX1_operand 30 = .ok (.iload_n 2, 1) := by decide +kernel
theorem dX1_operand_31 : decode cX1_operand 31 = .ok (.ireturn, 1) := by decide +kernel
theorem dX1_operand_32 : decode cX1_operand 32 = .ok (.iload_n 3, 1) := by decide +kernel
theorem dX1_operand_33 : decode cX1_operand 33 = .ok (.ireturn, 1) := by decide +kernel
theorem dX1_operand_34 : decode cX1_operand 34 = .ok (.iload_n 0, 1) := by decide +kernel
theorem dX1_operand_35 : decode cX1_operand 35 = .ok (.ireturn, 1) := by decide +kernel
theorem dX1_joined_0 : decode cX1_joined 0 = .ok (.iload_n 0, 1) := by decide +kernel
theorem dX1_joined_1 : decode cX1_joined 1 = .ok (.lookupswitch 148 #[(38, 89), (42, 144), (43, 136), (45, 140), (60, 103), (61, 114), (62, 125), (124, 75)], 75) := by decide +kernel
theorem dX1_joined_76 : decode cX1_joined 76 = .ok (.iload_n 1, 1) := by decide +kernel
theorem dX1_joined_77 : decode cX1_joined 77 = .ok (.ifCond .ne 7, 3) := by decide +kernel
theorem dX1_joined_80 : decode cX1_joined 80 = .ok (.iload_n 2, 1) := by decide +kernel
theorem dX1_joined_81 : decode cX1_joined 81 = .ok (.ifCond .eq 7, 3) := by decide +kernel
theorem dX1_joined_84 : decode cX1_joined 84 = .ok (.iconst 1, 1) := by decide +kernel
theorem dX1_joined_85 : decode cX1_joined 85 = .ok (.goto 4, 3) := by decide +kernel
theorem dX1_joined_88 : decode cX1_joined 88 = .ok (.iconst 0, 1) := by decide +kernel
theorem dX1_joined_89 : decode cX1_joined 89 = .ok (.ireturn, 1) := by decide +kernel
theorem dX1_joined_90 : decode cX1_joined 90 = .ok (.iload_n 1, 1) := by decide +kernel
theorem dX1_joined_91 : decode cX1_joined 91 = .ok (.ifCond .eq 11, 3) := by decide +kernel
theorem dX1_joined_94 : decode cX1_joined 94 = .ok (.iload_n 2, 1) := by decide +kernel
theorem dX1_joined_95 : decode cX1_joined 95 = .ok (.ifCond .eq 7, 3) := by decide +kernel
theorem dX1_joined_98 : decode cX1_joined 98 = .ok (.iconst 1, 1) := by decide +kernel
theorem dX1_joined_99 : decode cX1_joined 99 = .ok (.goto 4, 3) := by decide +kernel
theorem dX1_joined_102 : decode cX1_joined 102 = .ok (.iconst 0, 1) := by decide +kernel
theorem dX1_joined_103 : decode cX1_joined 103 = .ok (.ireturn, 1) := by decide +kernel
theorem dX1_joined_104 : decode cX1_joined 104 = .ok (.iload_n 1, 1) := by decide +kernel
theorem dX1_joined_105 : decode cX1_joined 105 = .ok (.iload_n 2, 1) := by decide +kernel
theorem dX1_joined_106 : decode cX1_joined 106 = .ok (.if_icmp .ge 7, 3) := by decide +kernel
theorem dX1_joined_109 : decode cX1_joined 109 = .ok (.iconst 1, 1) := by decide +kernel
theorem dX1_joined_110 : decode cX1_joined 110 = .ok (.goto 4, 3) := by decide +kernel
theorem dX1_joined_113 : decode cX1_joined 113 = .ok (.iconst 0, 1) := by decide +kernel
theorem dX1_joined_114 : decode cX1_joined 114 = .ok (.ireturn, 1) := by decide +kernel
theorem dX1_joined_115 : decode cX1_joined 115 = .ok (.iload_n 1, 1) := by decide +kernel
theorem dX1_joined_116 : decode cX1_joined 116 = .ok (.iload_n 2, 1) := by decide +kernel
theorem dX1_joined_117 : decode cX1_joined 117 = .ok (.if_icmp .ne 7, 3) := by decide +kernel
theorem dX1_joined_120 : decode cX1_joined 120 = .ok (.iconst 1, 1) := by decide +kernel
theorem dX1_joined_121 : decode cX1_joined 121 = .ok (.goto 4, 3) := by decide +kernel
theorem dX1_joined_124 : decode cX1_joined 124 = .ok (.iconst 0, 1) := by decide +kernel
theorem dX1_joined_125 : decode cX1_joined 125 = .ok (.ireturn, 1) := by decide +kernel
theorem dX1_joined_126 : decode cX1_joined 126 = .ok (.iload_n 1, 1) := by decide +kernel
theorem dX1_joined_127 : decode cX1_joined 127 = .ok (.iload_n 2, 1) := by decide +kernel
theorem dX1_joined_128 : decode cX1_joined 128 = .ok (.if_icmp .le 7, 3) := by decide +kernel
theorem dX1_joined_131 : decode cX1_joined 131 = .ok (.iconst 1, 1) := by decide +kernel
theorem dX1_joined_132 : decode cX1_joined 132 = .ok (.goto 4, 3) := by decide +kernel
theorem dX1_joined_135 : decode cX1_joined 135 = .ok (.iconst 0, 1) := by decide +kernel
theorem dX1_joined_136 : decode cX1_joined 136 = .ok (.ireturn, 1) := by decide +kernel
theorem dX1_joined_137 : decode cX1_joined 137 = .ok (.iload_n 1, 1) := by decide +kernel
theorem dX1_joined_138 : decode cX1_joined 138 = .ok (.iload_n 2, 1) := by decide +kernel
theorem dX1_joined_139 : decode cX1_joined 139 = .ok (.iadd, 1) := by decide +kernel
theorem dX1_joined_140 : decode cX1_joined 140 = .ok (.ireturn, 1) := by decide +kernel
theorem dX1_joined_141 : decode cX1_joined 141 = .ok (.iload_n 1, 1) := by decide +kernel
theorem dX1_joined_142 : decode cX1_joined 142 = .ok (.iload_n 2, 1) := by decide +kernel
theorem dX1_joined_143 : decode cX1_joined 143 = .ok (.isub, 1) := by decide +kernel
theorem dX1_joined_144 : decode cX1_joined 144 = .ok (.ireturn, 1) := by decide +kernel
theorem dX1_joined_145 : decode cX1_joined 145 = .ok (.iload_n 1, 1) := by decide +kernel
theorem dX1_joined_146 : decode cX1_joined 146 = .ok (.iload_n 2, 1) := by decide +kernel
theorem dX1_joined_147 : decode cX1_joined 147 = .ok (.imul, 1) := by decide +kernel
theorem dX1_joined_148 : decode cX1_joined 148 = .ok (.ireturn, 1) := by decide +kernel
theorem dX1_joined_149 : decode cX1_joined 149 = .ok (.iload_n 2, 1) := by decide +kernel
theorem dX1_joined_150 : decode cX1_joined 150 = .ok (.ifCond .ne 7, 3) := by decide +kernel
theorem dX1_joined_153 : decode cX1_joined 153 = .ok (.iconst 0, 1) := by decide +kernel
theorem dX1_joined_154 : decode cX1_joined 154 = .ok (.goto 6, 3) := by decide +kernel
theorem dX1_joined_157 : decode cX1_joined 157 = .ok (.iload_n 1, 1) := by decide +kernel
theorem dX1_joined_158 : decode cX1_joined 158 = .ok (.iload_n 2, 1) := by decide +kernel
theorem dX1_joined_159 : decode cX1_joined 159 = .ok (.idiv, 1) := by decide +kernel
theorem dX1_joined_160 : decode cX1_joined 160 = .ok (.ireturn, 1) := by decide +kernel
theorem dX2_init_0 : decode cX2_init 0 = .ok (.aload_n 0, 1) := by decide +kernel
theorem dX2_init_1 : decode cX2_init 1 = .ok (.invokespecial 3, 3) := by decide +kernel
theorem dX2_init_4 : decode cX2_init 4 = .ok (.aload_n 0, 1) := by decide +kernel
theorem dX2_init_5 : decode cX2_init 5 = .ok (.bipush 25, 2) := by decide +kernel
theorem dX2_init_7 : decode cX2_init 7 = .ok (.newarray .int, 2) := by decide +kernel
theorem dX2_init_9 : decode cX2_init 9 = .ok (.putfield 11, 3) := by decide +kernel
theorem dX2_init_12 : decode cX2_init 12 = .ok (.aload_n 0, 1) := by decide +kernel
theorem dX2_init_13 : decode cX2_init 13 = .ok (.bipush 25, 2) := by decide +kernel
theorem dX2_init_15 : decode cX2_init 15 = .ok (.newarray .int, 2) := by decide +kernel
theorem dX2_init_17 : decode cX2_init 17 = .ok (.putfield 15, 3) := by decide +kernel
theorem dX2_init_20 : decode cX2_init 20 = .ok (.aload_n 0, 1) := by decide +kernel
theorem dX2_init_21 : decode cX2_init 21 = .ok (.bipush 25, 2) := by decide +kernel
theorem dX2_init_23 : decode cX2_init 23 = .ok (.newarray .boolean, 2) := by decide +kernel
theorem dX2_init_25 : decode cX2_init 25 = .ok (.putfield 18, 3) := by decide +kernel
theorem dX2_init_28 : decode cX2_init 28 = .ok (.aload_n 0, 1) := by decide +kernel
theorem dX2_init_29 : decode cX2_init 29 = .ok (.bipush 6, 2) := by decide +kernel
theorem dX2_init_31 : decode cX2_init 31 = .ok (.newarray .int, 2) := by decide +kernel
theorem dX2_init_33 : decode cX2_init 33 = .ok (.putfield 22, 3) := by decide +kernel
theorem dX2_init_36 : decode cX2_init 36 = .ok (.aload_n 0, 1) := by decide +kernel
theorem dX2_init_37 : decode cX2_init 37 = .ok (.sipush 2500, 3) := by decide +kernel
theorem dX2_init_40 : decode cX2_init 40 = .ok (.newarray .int, 2) := by decide +kernel
theorem dX2_init_42 : decode cX2_init 42 = .ok (.putfield 25, 3) := by decide +kernel
theorem dX2_init_45 : decode cX2_init 45 = .ok (.aload_n 0, 1) := by decide +kernel
theorem dX2_init_46 : decode cX2_init 46 = .ok (.bipush 25, 2) := by decide +kernel
theorem dX2_init_48 : decode cX2_init 48 = .ok (.newarray .int, 2) := by decide +kernel
theorem dX2_init_50 : decode cX2_init 50 = .ok (.putfield 28, 3) := by decide +kernel
theorem dX2_init_53 : decode cX2_init 53 = .ok (.aload_n 0, 1) := by decide +kernel
theorem dX2_init_54 : decode cX2_init 54 = .ok (.bipush 25, 2) := by decide +kernel
theorem dX2_init_56 : decode cX2_init 56 = .ok (.newarray .int, 2) := by decide +kernel
theorem dX2_init_58 : decode cX2_init 58 = .ok (.putfield 31, 3) := by decide +kernel
theorem dX2_init_61 : decode cX2_init 61 = .ok (.aload_n 0, 1) := by decide +kernel
theorem dX2_init_62 : decode cX2_init 62 = .ok (.bipush 25, 2) := by decide +kernel
theorem dX2_init_64 : decode cX2_init 64 = .ok (.newarray .int, 2) := by decide +kernel
theorem dX2_init_66 : decode cX2_init 66 = .ok (.putfield 34, 3) := by decide +kernel
theorem dX2_init_69 : decode cX2_init 69 = .ok (.aload_n 0, 1) := by decide +kernel
theorem dX2_init_70 : decode cX2_init 70 = .ok (.bipush 25, 2) := by decide +kernel
theorem dX2_init_72 : decode cX2_init 72 = .ok (.newarray .int, 2) := by decide +kernel
theorem dX2_init_74 : decode cX2_init 74 = .ok (.putfield 37, 3) := by decide +kernel
theorem dX2_init_77 : decode cX2_init 77 = .ok (.return_, 1) := by decide +kernel
theorem dX2_load_0 : decode cX2_load 0 = .ok (.aload_n 0, 1) := by decide +kernel
theorem dX2_load_1 : decode cX2_load 1 = .ok (.aload_n 1, 1) := by decide +kernel
theorem dX2_load_2 : decode cX2_load 2 = .ok (.getfield 40, 3) := by decide +kernel
theorem dX2_load_5 : decode cX2_load 5 = .ok (.putfield 46, 3) := by decide +kernel
theorem dX2_load_8 : decode cX2_load 8 = .ok (.iconst 0, 1) := by decide +kernel
theorem dX2_load_9 : decode cX2_load 9 = .ok (.istore_n 2, 1) := by decide +kernel
theorem dX2_load_10 : decode cX2_load 10 = .ok (.iload_n 2, 1) := by decide +kernel
theorem dX2_load_11 : decode cX2_load 11 = .ok (.aload_n 0, 1) := by decide +kernel
theorem dX2_load_12 : decode cX2_load 12 = .ok (.getfield 46, 3) := by decide +kernel
theorem dX2_load_15 : decode cX2_load 15 = .ok (.if_icmp .ge 45, 3) := by decide +kernel
theorem dX2_load_18 : decode cX2_load 18 = .ok (.aload_n 0, 1) := by decide +kernel
theorem dX2_load_19 : decode cX2_load 19 = .ok (.getfield 11, 3) := by decide +kernel
theorem dX2_load_22 : decode cX2_load 22 = .ok (.iload_n 2, 1) := by decide +kernel
theorem dX2_load_23 : decode cX2_load 23 = .ok (.aload_n 1, 1) := by decide +kernel
theorem dX2_load_24 : decode cX2_load 24 = .ok (.getfield 49, 3) := by decide +kernel
theorem dX2_load_27 : decode cX2_load 27 = .ok (.iload_n 2, 1) := by decide +kernel
theorem dX2_load_28 : decode cX2_load 28 = .ok (.iaload, 1) := by decide +kernel
theorem dX2_load_29 : decode cX2_load 29 = .ok (.iastore, 1) := by decide +kernel
theorem dX2_load_30 : decode cX2_load 30 = .ok (.aload_n 0, 1) := by decide +kernel
theorem dX2_load_31 : decode cX2_load 31 = .ok (.getfield 15, 3) := by decide +kernel
theorem dX2_load_34 : decode cX2_load 34 = .ok (.iload_n 2, 1) := by decide +kernel
theorem dX2_load_35 : decode cX2_load 35 = .ok (.aload_n 1, 1) := by decide +kernel
theorem dX2_load_36 : decode cX2_load 36 = .ok (.getfield 52, 3) := by decide +kernel
theorem dX2_load_39 : decode cX2_load 39 = .ok (.iload_n 2, 1) := by decide +kernel
theorem dX2_load_40 : decode cX2_load 40 = .ok (.iaload, 1) := by decide +kernel
theorem dX2_load_41 : decode cX2_load 41 = .ok (.iastore, 1) := by decide +kernel
theorem dX2_load_42 : decode cX2_load 42 = .ok (.aload_n 0, 1) := by decide +kernel
theorem dX2_load_43 : decode cX2_load 43 = .ok (.getfield 18, 3) := by decide +kernel
theorem dX2_load_46 : decode cX2_load 46 = .ok (.iload_n 2, 1) := by decide +kernel
theorem dX2_load_47 : decode cX2_load 47 = .ok (.aload_n 1, 1) := by decide +kernel
theorem dX2_load_48 : decode cX2_load 48 = .ok (.getfield 53, 3) := by decide +kernel
theorem dX2_load_51 : decode cX2_load 51 = .ok (.iload_n 2, 1) := by decide +kernel
theorem dX2_load_52 : decode cX2_load 52 = .ok (.baload, 1) := by decide +kernel
theorem dX2_load_53 : decode cX2_load 53 = .ok (.bastore, 1) := by decide +kernel
theorem dX2_load_54 : decode cX2_load 54 = .ok (.iinc 2 1, 3) := by decide +kernel
theorem dX2_load_57 : decode cX2_load 57 = .ok (.goto (-47), 3) := by decide +kernel
theorem dX2_load_60 : decode cX2_load 60 = .ok (.aload_n 0, 1) := by decide +kernel
theorem dX2_load_61 : decode cX2_load 61 = .ok (.aload_n 1, 1) := by decide +kernel
theorem dX2_load_62 : decode cX2_load 62 = .ok (.getfield 54, 3) := by decide +kernel
theorem dX2_load_65 : decode cX2_load 65 = .ok (.putfield 57, 3) := by decide +kernel
theorem dX2_load_68 : decode cX2_load 68 = .ok (.aload_n 0, 1) := by decide +kernel
theorem dX2_load_69 : decode cX2_load 69 = .ok (.aload_n 1, 1) := by decide +kernel
theorem dX2_load_70 : decode cX2_load 70 = .ok (.getfield 58, 3) := by decide +kernel
theorem dX2_load_73 : decode cX2_load 73 = .ok (.putfield 61, 3) := by decide +kernel
theorem dX2_load_76 : decode cX2_load 76 = .ok (.aload_n 0, 1) := by decide +kernel
theorem dX2_load_77 : decode cX2_load 77 = .ok (.aload_n 1, 1) := by decide +kernel
theorem dX2_load_78 : decode cX2_load 78 = .ok (.getfield 62, 3) := by decide +kernel
theorem dX2_load_81 : decode cX2_load 81 = .ok (.putfield 65, 3) := by decide +kernel
theorem dX2_load_84 : decode cX2_load 84 = .ok (.aload_n 0, 1) := by decide +kernel
theorem dX2_load_85 : decode cX2_load 85 = .ok (.aload_n 1, 1) := by decide +kernel
theorem dX2_load_86 : decode cX2_load 86 = .ok (.iconst 0, 1) := by decide +kernel
theorem dX2_load_87 : decode cX2_load 87 = .ok (.invokevirtual 66, 3) := by decide +kernel
theorem dX2_load_90 : decode cX2_load 90 = .ok (.putfield 70, 3) := by decide +kernel
theorem dX2_load_93 : decode cX2_load 93 = .ok (.aload_n 0, 1) := by decide +kernel
theorem dX2_load_94 : decode cX2_load 94 = .ok (.aload_n 1, 1) := by decide +kernel
theorem dX2_load_95 : decode cX2_load 95 = .ok (.getfield 74, 3) := by decide +kernel
theorem dX2_load_98 : decode cX2_load 98 = .ok (.putfield 77, 3) := by decide +kernel
theorem dX2_load_101 : decode cX2_load 101 = .ok (.aload_n 1, 1) := by decide +kernel
theorem dX2_load_102 : decode cX2_load 102 = .ok (.getfield 80, 3) := by decide +kernel
theorem dX2_load_105 : decode cX2_load 105 = .ok (.iconst 0, 1) := by decide +kernel
theorem dX2_load_106 : decode cX2_load 106 = .ok (.aload_n 0, 1) := by decide +kernel
theorem dX2_load_107 : decode cX2_load 107 = .ok (.getfield 22, 3) := by decide +kernel
theorem dX2_load_110 : decode cX2_load 110 = .ok (.iconst 0, 1) := by decide +kernel
theorem dX2_load_111 : decode cX2_load 111 = .ok (.bipush 6, 2) := by decide +kernel
theorem dX2_load_113 : decode cX2_load 113 = .ok (.invokestatic 83, 3) := by decide +kernel
theorem dX2_load_116 : decode cX2_load 116 = .ok (.aload_n 0, 1) := by decide +kernel
theorem dX2_load_117 : decode cX2_load 117 = .ok (.getfield 70, 3) := by decide +kernel
theorem dX2_load_120 : decode cX2_load 120 = .ok (.ifnull 11, 3) := by decide +kernel
theorem dX2_load_123 : decode cX2_load 123 = .ok (.aload_n 0, 1) := by decide +kernel
theorem dX2_load_124 : decode cX2_load 124 = .ok (.getfield 25, 3) := by decide +kernel
theorem dX2_load_127 : decode cX2_load 127 = .ok (.iconst (-1), 1) := by decide +kernel
theorem dX2_load_128 : decode cX2_load 128 = .ok (.invokestatic 89, 3) := by decide +kernel
theorem dX2_load_131 : decode cX2_load 131 = .ok (.aload_n 0, 1) := by decide +kernel
theorem dX2_load_132 : decode cX2_load 132 = .ok (.areturn, 1) := by decide +kernel
theorem dX2_keepOnly_0 : decode cX2_keepOnly 0 = .ok (.aload_n 0, 1) := by decide +kernel
theorem dX2_keepOnly_1 : decode cX2_keepOnly 1 = .ok (.iconst 0, 1) := by decide +kernel
theorem dX2_keepOnly_2 : decode cX2_keepOnly 2 = .ok (.putfield 46, 3) := by decide +kernel
theorem dX2_keepOnly_5 : decode cX2_keepOnly 5 = .ok (.iconst 0, 1) := by decide +kernel
theorem dX2_keepOnly_6 : decode cX2_keepOnly 6 = .ok (.istore 4, 2) := by decide +kernel
theorem dX2_keepOnly_8 : decode cX2_keepOnly 8 = .ok (.iload 4, 2) := by decide +kernel
theorem dX2_keepOnly_10 : decode cX2_keepOnly 10 = .ok (.aload_n 1, 1) := by decide +kernel
theorem dX2_keepOnly_11 : decode cX2_keepOnly 11 = .ok (.getfield 40, 3) := by decide +kernel
theorem dX2_keepOnly_14 : decode cX2_keepOnly 14 = .ok (.if_icmp .ge 81, 3) := by decide +kernel
theorem dX2_keepOnly_17 : decode cX2_keepOnly 17 = .ok (.aload_n 1, 1) := by decide +kernel
theorem dX2_keepOnly_18 : decode cX2_keepOnly 18 = .ok (.getfield 49, 3) := by decide +kernel
theorem dX2_keepOnly_21 : decode cX2_keepOnly 21 = .ok (.iload 4, 2) := by decide +kernel
theorem dX2_keepOnly_23 : decode cX2_keepOnly 23 = .ok (.iaload, 1) := by decide +kernel
theorem dX2_keepOnly_24 : decode cX2_keepOnly 24 = .ok (.iload_n 2, 1) := by decide +kernel
theorem dX2_keepOnly_25 : decode cX2_keepOnly 25 = .ok (.if_icmp .lt 7, 3) := by decide +kernel
theorem dX2_keepOnly_28 : decode cX2_keepOnly 28 = .ok (.iconst 1, 1) := by decide +kernel
theorem dX2_keepOnly_29 : decode cX2_keepOnly 29 = .ok (.goto 4, 3) := by decide +kernel
theorem dX2_keepOnly_32 : decode cX2_keepOnly 32 = .ok (.iconst 0, 1) := by decide +kernel
theorem dX2_keepOnly_33 : decode cX2_keepOnly 33 = .ok (.iload_n 3, 1) := by decide +kernel
theorem dX2_keepOnly_34 : decode cX2_keepOnly 34 = .ok (.if_icmp .ne 55, 3) := by decide +kernel
theorem dX2_keepOnly_37 : decode cX2_keepOnly 37 = .ok (.aload_n 0, 1) := by decide +kernel
theorem dX2_keepOnly_38 : decode cX2_keepOnly 38 = .ok (.getfield 11, 3) := by decide +kernel
theorem dX2_keepOnly_41 : decode cX2_keepOnly 41 = .ok (.aload_n 0, 1) := by decide +kernel
theorem dX2_keepOnly_42 : decode cX2_keepOnly 42 = .ok (.getfield 46, 3) := by decide +kernel
theorem dX2_keepOnly_45 : decode cX2_keepOnly 45 = .ok (.aload_n 1, 1) := by decide +kernel
theorem dX2_keepOnly_46 : decode cX2_keepOnly 46 = .ok (.getfield 49, 3) := by decide +kernel
theorem dX2_keepOnly_49 : decode cX2_keepOnly 49 = .ok (.iload 4, 2) := by decide +kernel
theorem dX2_keepOnly_51 : decode cX2_keepOnly 51 = .ok (.iaload, 1) := by decide +kernel
theorem dX2_keepOnly_52 : decode cX2_keepOnly 52 = .ok (.iastore, 1) := by decide +kernel
theorem dX2_keepOnly_53 : decode cX2_keepOnly 53 = .ok (.aload_n 0, 1) := by decide +kernel
theorem dX2_keepOnly_54 : decode cX2_keepOnly 54 = .ok (.getfield 15, 3) := by decide +kernel
theorem dX2_keepOnly_57 : decode cX2_keepOnly 57 = .ok (.aload_n 0, 1) := by decide +kernel
theorem dX2_keepOnly_58 : decode cX2_keepOnly 58 = .ok (.getfield 46, 3) := by decide +kernel
theorem dX2_keepOnly_61 : decode cX2_keepOnly 61 = .ok (.aload_n 1, 1) := by decide +kernel
theorem dX2_keepOnly_62 : decode cX2_keepOnly 62 = .ok (.getfield 52, 3) := by decide +kernel
theorem dX2_keepOnly_65 : decode cX2_keepOnly 65 = .ok (.iload 4, 2) := by decide +kernel
theorem dX2_keepOnly_67 : decode cX2_keepOnly 67 = .ok (.iaload, 1) := by decide +kernel
theorem dX2_keepOnly_68 : decode cX2_keepOnly 68 = .ok (.iastore, 1) := by decide +kernel
theorem dX2_keepOnly_69 : decode cX2_keepOnly 69 = .ok (.aload_n 0, 1) := by decide +kernel
theorem dX2_keepOnly_70 : decode cX2_keepOnly 70 = .ok (.getfield 18, 3) := by decide +kernel
theorem dX2_keepOnly_73 : decode cX2_keepOnly 73 = .ok (.aload_n 0, 1) := by decide +kernel
theorem dX2_keepOnly_74 : decode cX2_keepOnly 74 = .ok (.getfield 46, 3) := by decide +kernel
theorem dX2_keepOnly_77 : decode cX2_keepOnly 77 = .ok (.iconst 0, 1) := by decide +kernel
theorem dX2_keepOnly_78 : decode cX2_keepOnly 78 = .ok (.bastore, 1) := by decide +kernel
theorem dX2_keepOnly_79 : decode cX2_keepOnly 79 = .ok (.aload_n 0, 1) := by decide +kernel
theorem dX2_keepOnly_80 : decode cX2_keepOnly 80 = .ok (.dup, 1) := by decide +kernel
theorem dX2_keepOnly_81 : decode cX2_keepOnly 81 = .ok (.getfield 46, 3) := by decide +kernel
theorem dX2_keepOnly_84 : decode cX2_keepOnly 84 = .ok (.iconst 1, 1) := by decide +kernel
theorem dX2_keepOnly_85 : decode cX2_keepOnly 85 = .ok (.iadd, 1) := by decide +kernel
theorem dX2_keepOnly_86 : decode cX2_keepOnly 86 = .ok (.putfield 46, 3) := by decide +kernel
theorem dX2_keepOnly_89 : decode cX2_keepOnly 89 = .ok (.iinc 4 1, 3) := by decide +kernel
theorem dX2_keepOnly_92 : decode cX2_keepOnly 92 = .ok (.goto (-84), 3) := by decide +kernel
theorem dX2_keepOnly_95 : decode cX2_keepOnly 95 = .ok (.return_, 1) := by decide +kernel
theorem dX2_insert_0 : decode cX2_insert 0 = .ok (.aload_n 0, 1) := by decide +kernel
theorem dX2_insert_1 : decode cX2_insert 1 = .ok (.getfield 46, 3) := by decide +kernel
theorem dX2_insert_4 : decode cX2_insert 4 = .ok (.bipush 24, 2) := by decide +kernel
theorem dX2_insert_6 : decode cX2_insert 6 = .ok (.if_icmp .ge 15, 3) := by decide +kernel
theorem dX2_insert_9 : decode cX2_insert 9 = .ok (.iload_n 1, 1) := by decide +kernel
theorem dX2_insert_10 : decode cX2_insert 10 = .ok (.iconst 0, 1) := by decide +kernel
theorem dX2_insert_11 : decode cX2_insert 11 = .ok (.aload_n 0, 1) := by decide +kernel
theorem dX2_insert_12 : decode cX2_insert 12 = .ok (.getfield 46, 3) := by decide +kernel
theorem dX2_insert_15 : decode cX2_insert 15 = .ok (.invokestatic 95, 3) := by decide +kernel
theorem dX2_insert_18 : decode cX2_insert 18 = .ok (.ifCond .ne 4, 3) := by decide +kernel
theorem dX2_insert_21 : decode cX2_insert 21 = .ok (.return_, 1) := by decide +kernel
theorem dX2_insert_22 : decode cX2_insert 22 = .ok (.aload_n 0, 1) := by decide +kernel
theorem dX2_insert_23 : decode cX2_insert 23 = .ok (.getfield 46, 3) := by decide +kernel
theorem dX2_insert_26 : decode cX2_insert 26 = .ok (.istore 4, 2) := by decide +kernel
theorem dX2_insert_28 : decode cX2_insert 28 = .ok (.iload 4, 2) := by decide +kernel
theorem dX2_insert_30 : decode cX2_insert 30 = .ok (.iload_n 1, 1) := by decide +kernel
theorem dX2_insert_31 : decode cX2_insert 31 = .ok (.if_icmp .le 57, 3) := by decide +kernel
theorem dX2_insert_34 : decode cX2_insert 34 = .ok (.aload_n 0, 1) := by decide +kernel
theorem dX2_insert_35 : decode cX2_insert 35 = .ok (.getfield 11, 3) := by decide +kernel
theorem dX2_insert_38 : decode cX2_insert 38 = .ok (.iload 4, 2) := by decide +kernel
theorem dX2_insert_40 : decode cX2_insert 40 = .ok (.aload_n 0, 1) := by decide +kernel
theorem dX2_insert_41 : decode cX2_insert 41 = .ok (.getfield 11, 3) := by decide +kernel
theorem dX2_insert_44 : decode cX2_insert 44 = .ok (.iload 4, 2) := by decide +kernel
theorem dX2_insert_46 : decode cX2_insert 46 = .ok (.iconst 1, 1) := by decide +kernel
theorem dX2_insert_47 : decode cX2_insert 47 = .ok (.isub, 1) := by decide +kernel
theorem dX2_insert_48 : decode cX2_insert 48 = .ok (.iaload, 1) := by decide +kernel
theorem dX2_insert_49 : decode cX2_insert 49 = .ok (.iastore, 1) := by decide +kernel
theorem dX2_insert_50 : decode cX2_insert 50 = .ok (.aload_n 0, 1) := by decide +kernel
theorem dX2_insert_51 : decode cX2_insert 51 = .ok (.getfield 15, 3) := by decide +kernel
theorem dX2_insert_54 : decode cX2_insert 54 = .ok (.iload 4, 2) := by decide +kernel
theorem dX2_insert_56 : decode cX2_insert 56 = .ok (.aload_n 0, 1) := by decide +kernel
theorem dX2_insert_57 : decode cX2_insert 57 = .ok (.getfield 15, 3) := by decide +kernel
theorem dX2_insert_60 : decode cX2_insert 60 = .ok (.iload 4, 2) := by decide +kernel
theorem dX2_insert_62 : decode cX2_insert 62 = .ok (.iconst 1, 1) := by decide +kernel
theorem dX2_insert_63 : decode cX2_insert 63 = .ok (.isub, 1) := by decide +kernel
theorem dX2_insert_64 : decode cX2_insert 64 = .ok (.iaload, 1) := by decide +kernel
theorem dX2_insert_65 : decode cX2_insert 65 = .ok (.iastore, 1) := by decide +kernel
theorem dX2_insert_66 : decode cX2_insert 66 = .ok (.aload_n 0, 1) := by decide +kernel
theorem dX2_insert_67 : decode cX2_insert 67 = .ok (.getfield 18, 3) := by decide +kernel
theorem dX2_insert_70 : decode cX2_insert 70 = .ok (.iload 4, 2) := by decide +kernel
theorem dX2_insert_72 : decode cX2_insert 72 = .ok (.aload_n 0, 1) := by decide +kernel
theorem dX2_insert_73 : decode cX2_insert 73 = .ok (.getfield 18, 3) := by decide +kernel
theorem dX2_insert_76 : decode cX2_insert 76 = .ok (.iload 4, 2) := by decide +kernel
theorem dX2_insert_78 : decode cX2_insert 78 = .ok (.iconst 1, 1) := by decide +kernel
theorem dX2_insert_79 : decode cX2_insert 79 = .ok (.isub, 1) := by decide +kernel
theorem dX2_insert_80 : decode cX2_insert 80 = .ok (.baload, 1) := by decide +kernel
theorem dX2_insert_81 : decode cX2_insert 81 = .ok (.bastore, 1) := by decide +kernel
theorem dX2_insert_82 : decode cX2_insert 82 = .ok (.iinc 4 (-1), 3) := by decide +kernel
theorem dX2_insert_85 : decode cX2_insert 85 = .ok (.goto (-57), 3) := by decide +kernel
theorem dX2_insert_88 : decode cX2_insert 88 = .ok (.aload_n 0, 1) := by decide +kernel
theorem dX2_insert_89 : decode cX2_insert 89 = .ok (.getfield 11, 3) := by decide +kernel
theorem dX2_insert_92 : decode cX2_insert 92 = .ok (.iload_n 1, 1) := by decide +kernel
theorem dX2_insert_93 : decode cX2_insert 93 = .ok (.iload_n 2, 1) := by decide +kernel
theorem dX2_insert_94 : decode cX2_insert 94 = .ok (.iastore, 1) := by decide +kernel
theorem dX2_insert_95 : decode cX2_insert 95 = .ok (.aload_n 0, 1) := by decide +kernel
theorem dX2_insert_96 : decode cX2_insert 96 = .ok (.getfield 15, 3) := by decide +kernel
theorem dX2_insert_99 : decode cX2_insert 99 = .ok (.iload_n 1, 1) := by decide +kernel
theorem dX2_insert_100 : decode cX2_insert 100 = .ok (.iload_n 3, 1) := by decide +kernel
theorem dX2_insert_101 : decode cX2_insert 101 = .ok (.iastore, 1) := by decide +kernel
theorem dX2_insert_102 : decode cX2_insert 102 = .ok (.aload_n 0, 1) := by decide +kernel
theorem dX2_insert_103 : decode cX2_insert 103 = .ok (.getfield 18, 3) := by decide +kernel
theorem dX2_insert_106 : decode cX2_insert 106 = .ok (.iload_n 1, 1) := by decide +kernel
theorem dX2_insert_107 : decode cX2_insert 107 = .ok (.iconst 0, 1) := by decide +kernel
theorem dX2_insert_108 : decode cX2_insert 108 = .ok (.bastore, 1) := by decide +kernel
theorem dX2_insert_109 : decode cX2_insert 109 = .ok (.iload_n 1, 1) := by decide +kernel
theorem dX2_insert_110 : decode cX2_insert 110 = .ok (.ifCond .le 12, 3) := by decide +kernel
theorem dX2_insert_113 : decode cX2_insert 113 = .ok (.aload_n 0, 1) := by decide +kernel
theorem dX2_insert_114 : decode cX2_insert 114 = .ok (.getfield 18, 3) := by decide +kernel
theorem dX2_insert_117 : decode cX2_insert 117 = .ok (.iload_n 1, 1) := by decide +kernel
theorem dX2_insert_118 : decode cX2_insert 118 = .ok (.iconst 1, 1) := by decide +kernel
theorem dX2_insert_119 : decode cX2_insert 119 = .ok (.isub, 1) := by decide +kernel
theorem dX2_insert_120 : decode cX2_insert 120 = .ok (.iconst 0, 1) := by decide +kernel
theorem dX2_insert_121 : decode cX2_insert 121 = .ok (.bastore, 1) := by decide +kernel
theorem dX2_insert_122 : decode cX2_insert 122 = .ok (.aload_n 0, 1) := by decide +kernel
theorem dX2_insert_123 : decode cX2_insert 123 = .ok (.dup, 1) := by decide +kernel
theorem dX2_insert_124 : decode cX2_insert 124 = .ok (.getfield 46, 3) := by decide +kernel
theorem dX2_insert_127 : decode cX2_insert 127 = .ok (.iconst 1, 1) := by decide +kernel
theorem dX2_insert_128 : decode cX2_insert 128 = .ok (.iadd, 1) := by decide +kernel
theorem dX2_insert_129 : decode cX2_insert 129 = .ok (.putfield 46, 3) := by decide +kernel
theorem dX2_insert_132 : decode cX2_insert 132 = .ok (.return_, 1) := by decide +kernel
theorem dX2_settle_0 : decode cX2_settle 0 = .ok (.aload_n 0, 1) := by decide +kernel
theorem dX2_settle_1 : decode cX2_settle 1 = .ok (.iconst 0, 1) := by decide +kernel
theorem dX2_settle_2 : decode cX2_settle 2 = .ok (.putfield 99, 3) := by decide +kernel
theorem dX2_settle_5 : decode cX2_settle 5 = .ok (.aload_n 0, 1) := by decide +kernel
theorem dX2_settle_6 : decode cX2_settle 6 = .ok (.invokevirtual 102, 3) := by decide +kernel
theorem dX2_settle_9 : decode cX2_settle 9 = .ok (.ifCond .ge 5, 3) := by decide +kernel
theorem dX2_settle_12 : decode cX2_settle 12 = .ok (.iconst 0, 1) := by decide +kernel
theorem dX2_settle_13 : decode cX2_settle 13 = .ok (.ireturn, 1) := by decide +kernel
theorem dX2_settle_14 : decode cX2_settle 14 = .ok (.iconst 0, 1) := by decide +kernel
theorem dX2_settle_15 : decode cX2_settle 15 = .ok (.istore_n 1, 1) := by decide +kernel
theorem dX2_settle_16 : decode cX2_settle 16 = .ok (.iconst 0, 1) := by decide +kernel
theorem dX2_settle_17 : decode cX2_settle 17 = .ok (.istore_n 2, 1) := by decide +kernel
theorem dX2_settle_18 : decode cX2_settle 18 = .ok (.iload_n 2, 1) := by decide +kernel
theorem dX2_settle_19 : decode cX2_settle 19 = .ok (.bipush 24, 2) := by decide +kernel
theorem dX2_settle_21 : decode cX2_settle 21 = .ok (.if_icmp .ge 44, 3) := by decide +kernel
theorem dX2_settle_24 : decode cX2_settle 24 = .ok (.iload_n 1, 1) := by decide +kernel
theorem dX2_settle_25 : decode cX2_settle 25 = .ok (.aload_n 0, 1) := by decide +kernel
theorem dX2_settle_26 : decode cX2_settle 26 = .ok (.getfield 46, 3) := by decide +kernel
theorem dX2_settle_29 : decode cX2_settle 29 = .ok (.if_icmp .ge 36, 3) := by decide +kernel
theorem dX2_settle_32 : decode cX2_settle 32 = .ok (.aload_n 0, 1) := by decide +kernel
theorem dX2_settle_33 : decode cX2_settle 33 = .ok (.getfield 34, 3) := by decide +kernel
theorem dX2_settle_36 : decode cX2_settle 36 = .ok (.aload_n 0, 1) := by decide +kernel
theorem dX2_settle_37 : decode cX2_settle 37 = .ok (.getfield 99, 3) := by decide +kernel
theorem dX2_settle_40 : decode cX2_settle 40 = .ok (.iload_n 1, 1) := by decide +kernel
theorem dX2_settle_41 : decode cX2_settle 41 = .ok (.iastore, 1) := by decide +kernel
theorem dX2_settle_42 : decode cX2_settle 42 = .ok (.aload_n 0, 1) := by decide +kernel
theorem dX2_settle_43 : decode cX2_settle 43 = .ok (.dup, 1) := by decide +kernel
theorem dX2_settle_44 : decode cX2_settle 44 = .ok (.getfield 99, 3) := by decide +kernel
theorem dX2_settle_47 : decode cX2_settle 47 = .ok (.iconst 1, 1) := by decide +kernel
theorem dX2_settle_48 : decode cX2_settle 48 = .ok (.iadd, 1) := by decide +kernel
theorem dX2_settle_49 : decode cX2_settle 49 = .ok (.putfield 99, 3) := by decide +kernel
theorem dX2_settle_52 : decode cX2_settle 52 = .ok (.aload_n 0, 1) := by decide +kernel
theorem dX2_settle_53 : decode cX2_settle 53 = .ok (.getfield 31, 3) := by decide +kernel
theorem dX2_settle_56 : decode cX2_settle 56 = .ok (.iload_n 1, 1) := by decide +kernel
theorem dX2_settle_57 : decode cX2_settle 57 = .ok (.iaload, 1) := by decide +kernel
theorem dX2_settle_58 : decode cX2_settle 58 = .ok (.istore_n 1, 1) := by decide +kernel
theorem dX2_settle_59 : decode cX2_settle 59 = .ok (.iinc 2 1, 3) := by decide +kernel
theorem dX2_settle_62 : decode cX2_settle 62 = .ok (.goto (-44), 3) := by decide +kernel
theorem dX2_settle_65 : decode cX2_settle 65 = .ok (.aload_n 0, 1) := by decide +kernel
theorem dX2_settle_66 : decode cX2_settle 66 = .ok (.getfield 34, 3) := by decide +kernel
theorem dX2_settle_69 : decode cX2_settle 69 = .ok (.aload_n 0, 1) := by decide +kernel
theorem dX2_settle_70 : decode cX2_settle 70 = .ok (.getfield 99, 3) := by decide +kernel
theorem dX2_settle_73 : decode cX2_settle 73 = .ok (.aload_n 0, 1) := by decide +kernel
theorem dX2_settle_74 : decode cX2_settle 74 = .ok (.getfield 46, 3) := by decide +kernel
theorem dX2_settle_77 : decode cX2_settle 77 = .ok (.iastore, 1) := by decide +kernel
theorem dX2_settle_78 : decode cX2_settle 78 = .ok (.iconst 1, 1) := by decide +kernel
theorem dX2_settle_79 : decode cX2_settle 79 = .ok (.ireturn, 1) := by decide +kernel
theorem dX2_leastPrices_0 : decode cX2_leastPrices 0 = .ok (.aload_n 0, 1) := by decide +kernel
theorem dX2_leastPrices_1 : decode cX2_leastPrices 1 = .ok (.getfield 28, 3) := by decide +kernel
theorem dX2_leastPrices_4 : decode cX2_leastPrices 4 = .ok (.aload_n 0, 1) := by decide +kernel
theorem dX2_leastPrices_5 : decode cX2_leastPrices 5 = .ok (.getfield 46, 3) := by decide +kernel
theorem dX2_leastPrices_8 : decode cX2_leastPrices 8 = .ok (.iconst 0, 1) := by decide +kernel
theorem dX2_leastPrices_9 : decode cX2_leastPrices 9 = .ok (.iastore, 1) := by decide +kernel
theorem dX2_leastPrices_10 : decode cX2_leastPrices 10 = .ok (.aload_n 0, 1) := by decide +kernel
theorem dX2_leastPrices_11 : decode cX2_leastPrices 11 = .ok (.getfield 46, 3) := by decide +kernel
theorem dX2_leastPrices_14 : decode cX2_leastPrices 14 = .ok (.iconst 1, 1) := by decide +kernel
theorem dX2_leastPrices_15 : decode cX2_leastPrices 15 = .ok (.isub, 1) := by decide +kernel
theorem dX2_leastPrices_16 : decode cX2_leastPrices 16 = .ok (.istore_n 1, 1) := by decide +kernel
theorem dX2_leastPrices_17 : decode cX2_leastPrices 17 = .ok (.iload_n 1, 1) := by decide +kernel
theorem dX2_leastPrices_18 : decode cX2_leastPrices 18 = .ok (.ifCond .lt 14, 3) := by decide +kernel
theorem dX2_leastPrices_21 : decode cX2_leastPrices 21 = .ok (.aload_n 0, 1) := by decide +kernel
theorem dX2_leastPrices_22 : decode cX2_leastPrices 22 = .ok (.iload_n 1, 1) := by decide +kernel
theorem dX2_leastPrices_23 : decode cX2_leastPrices 23 = .ok (.invokevirtual 106, 3) := by decide +kernel
theorem dX2_leastPrices_26 : decode cX2_leastPrices 26 = .ok (.iinc 1 (-1), 3) := by decide +kernel
theorem dX2_leastPrices_29 : decode cX2_leastPrices 29 = .ok (.goto (-12), 3) := by decide +kernel
theorem dX2_leastPrices_32 : decode cX2_leastPrices 32 = .ok (.aload_n 0, 1) := by decide +kernel
theorem dX2_leastPrices_33 : decode cX2_leastPrices 33 = .ok (.getfield 28, 3) := by decide +kernel
theorem dX2_leastPrices_36 : decode cX2_leastPrices 36 = .ok (.iconst 0, 1) := by decide +kernel
theorem dX2_leastPrices_37 : decode cX2_leastPrices 37 = .ok (.iaload, 1) := by decide +kernel
theorem dX2_leastPrices_38 : decode cX2_leastPrices 38 = .ok (.ifCond .ge 8, 3) := by decide +kernel
theorem dX2_leastPrices_41 : decode cX2_leastPrices 41 = .ok (.ldc 110, 2) := by decide +kernel
theorem dX2_leastPrices_43 : decode cX2_leastPrices 43 = .ok (.goto 9, 3) := by decide +kernel
theorem dX2_leastPrices_46 : decode cX2_leastPrices 46 = .ok (.aload_n 0, 1) := by decide +kernel
theorem dX2_leastPrices_47 : decode cX2_leastPrices 47 = .ok (.getfield 28, 3) := by decide +kernel
theorem dX2_leastPrices_50 : decode cX2_leastPrices 50 = .ok (.iconst 0, 1) := by decide +kernel
theorem dX2_leastPrices_51 : decode cX2_leastPrices 51 = .ok (.iaload, 1) := by decide +kernel
theorem dX2_leastPrices_52 : decode cX2_leastPrices 52 = .ok (.ireturn, 1) := by decide +kernel
theorem dX2_priceFrom_0 : decode cX2_priceFrom 0 = .ok (.aload_n 0, 1) := by decide +kernel
theorem dX2_priceFrom_1 : decode cX2_priceFrom 1 = .ok (.getfield 28, 3) := by decide +kernel
theorem dX2_priceFrom_4 : decode cX2_priceFrom 4 = .ok (.iload_n 1, 1) := by decide +kernel
theorem dX2_priceFrom_5 : decode cX2_priceFrom 5 = .ok (.iconst (-1), 1) := by decide +kernel
theorem dX2_priceFrom_6 : decode cX2_priceFrom 6 = .ok (.iastore, 1) := by decide +kernel
theorem dX2_priceFrom_7 : decode cX2_priceFrom 7 = .ok (.aload_n 0, 1) := by decide +kernel
theorem dX2_priceFrom_8 : decode cX2_priceFrom 8 = .ok (.getfield 31, 3) := by decide +kernel
theorem dX2_priceFrom_11 : decode cX2_priceFrom 11 = .ok (.iload_n 1, 1) := by decide +kernel
theorem dX2_priceFrom_12 : decode cX2_priceFrom 12 = .ok (.aload_n 0, 1) := by decide +kernel
theorem dX2_priceFrom_13 : decode cX2_priceFrom 13 = .ok (.getfield 46, 3) := by decide +kernel
theorem dX2_priceFrom_16 : decode cX2_priceFrom 16 = .ok (.iastore, 1) := by decide +kernel
theorem dX2_priceFrom_17 : decode cX2_priceFrom 17 = .ok (.iconst 0, 1) := by decide +kernel
theorem dX2_priceFrom_18 : decode cX2_priceFrom 18 = .ok (.istore_n 2, 1) := by decide +kernel
theorem dX2_priceFrom_19 : decode cX2_priceFrom 19 = .ok (.iconst 0, 1) := by decide +kernel
theorem dX2_priceFrom_20 : decode cX2_priceFrom 20 = .ok (.istore_n 3, 1) := by decide +kernel
theorem dX2_priceFrom_21 : decode cX2_priceFrom 21 = .ok (.iload_n 1, 1) := by decide +kernel
theorem dX2_priceFrom_22 : decode cX2_priceFrom 22 = .ok (.istore 4, 2) := by decide +kernel
theorem dX2_priceFrom_24 : decode cX2_priceFrom 24 = .ok (.iload 4, 2) := by decide +kernel
theorem dX2_priceFrom_26 : decode cX2_priceFrom 26 = .ok (.aload_n 0, 1) := by decide +kernel
theorem dX2_priceFrom_27 : decode cX2_priceFrom 27 = .ok (.getfield 46, 3) := by decide +kernel
theorem dX2_priceFrom_30 : decode cX2_priceFrom 30 = .ok (.if_icmp .ge 135, 3) := by decide +kernel
theorem dX2_priceFrom_33 : decode cX2_priceFrom 33 = .ok (.iload_n 2, 1) := by decide +kernel
theorem dX2_priceFrom_34 : decode cX2_priceFrom 34 = .ok (.aload_n 0, 1) := by decide +kernel
theorem dX2_priceFrom_35 : decode cX2_priceFrom 35 = .ok (.getfield 15, 3) := by decide +kernel
theorem dX2_priceFrom_38 : decode cX2_priceFrom 38 = .ok (.iload 4, 2) := by decide +kernel
theorem dX2_priceFrom_40 : decode cX2_priceFrom 40 = .ok (.iaload, 1) := by decide +kernel
theorem dX2_priceFrom_41 : decode cX2_priceFrom 41 = .ok (.iadd, 1) := by decide +kernel
theorem dX2_priceFrom_42 : decode cX2_priceFrom 42 = .ok (.istore_n 2, 1) := by decide +kernel
theorem dX2_priceFrom_43 : decode cX2_priceFrom 43 = .ok (.iload_n 3, 1) := by decide +kernel
theorem dX2_priceFrom_44 : decode cX2_priceFrom 44 = .ok (.aload_n 0, 1) := by decide +kernel
theorem dX2_priceFrom_45 : decode cX2_priceFrom 45 = .ok (.getfield 11, 3) := by decide +kernel
theorem dX2_priceFrom_48 : decode cX2_priceFrom 48 = .ok (.iload 4, 2) := by decide +kernel
theorem dX2_priceFrom_50 : decode cX2_priceFrom 50 = .ok (.iaload, 1) := by decide +kernel
theorem dX2_priceFrom_51 : decode cX2_priceFrom 51 = .ok (.invokestatic 111, 3) := by decide +kernel
theorem dX2_priceFrom_54 : decode cX2_priceFrom 54 = .ok (.istore_n 3, 1) := by decide +kernel
theorem dX2_priceFrom_55 : decode cX2_priceFrom 55 = .ok (.iload_n 2, 1) := by decide +kernel
theorem dX2_priceFrom_56 : decode cX2_priceFrom 56 = .ok (.aload_n 0, 1) := by decide +kernel
theorem dX2_priceFrom_57 : decode cX2_priceFrom 57 = .ok (.getfield 57, 3) := by decide +kernel
theorem dX2_priceFrom_60 : decode cX2_priceFrom 60 = .ok (.if_icmp .le 4, 3) := by decide +kernel
theorem dX2_priceFrom_63 : decode cX2_priceFrom 63 = .ok (.return_, 1) := by decide +kernel
theorem dX2_priceFrom_64 : decode cX2_priceFrom 64 = .ok (.aload_n 0, 1) := by decide +kernel
theorem dX2_priceFrom_65 : decode cX2_priceFrom 65 = .ok (.iload_n 3, 1) := by decide +kernel
theorem dX2_priceFrom_66 : decode cX2_priceFrom 66 = .ok (.invokevirtual 117, 3) := by decide +kernel
theorem dX2_priceFrom_69 : decode cX2_priceFrom 69 = .ok (.istore 5, 2) := by decide +kernel
theorem dX2_priceFrom_71 : decode cX2_priceFrom 71 = .ok (.aload_n 0, 1) := by decide +kernel
theorem dX2_priceFrom_72 : decode cX2_priceFrom 72 = .ok (.iload 4, 2) := by decide +kernel
theorem dX2_priceFrom_74 : decode cX2_priceFrom 74 = .ok (.invokevirtual 121, 3) := by decide +kernel
theorem dX2_priceFrom_77 : decode cX2_priceFrom 77 = .ok (.ifCond .eq 82, 3) := by decide +kernel
theorem dX2_priceFrom_80 : decode cX2_priceFrom 80 = .ok (.iload 5, 2) := by decide +kernel
theorem dX2_priceFrom_82 : decode cX2_priceFrom 82 = .ok (.ifCond .le 77, 3) := by decide +kernel
theorem dX2_priceFrom_85 : decode cX2_priceFrom 85 = .ok (.aload_n 0, 1) := by decide +kernel
theorem dX2_priceFrom_86 : decode cX2_priceFrom 86 = .ok (.getfield 28, 3) := by decide +kernel
theorem dX2_priceFrom_89 : decode cX2_priceFrom 89 = .ok (.iload 4, 2) := by decide +kernel
theorem dX2_priceFrom_91 : decode cX2_priceFrom 91 = .ok (.iconst 1, 1) := by decide +kernel
theorem dX2_priceFrom_92 : decode cX2_priceFrom 92 = .ok (.iadd, 1) := by decide +kernel
theorem dX2_priceFrom_93 : decode cX2_priceFrom 93 = .ok (.iaload, 1) := by decide +kernel
theorem dX2_priceFrom_94 : decode cX2_priceFrom 94 = .ok (.ifCond .lt 65, 3) := by decide +kernel
theorem dX2_priceFrom_97 : decode cX2_priceFrom 97 = .ok (.aload_n 0, 1) := by decide +kernel
theorem dX2_priceFrom_98 : decode cX2_priceFrom 98 = .ok (.iload 5, 2) := by decide +kernel
theorem dX2_priceFrom_100 : decode cX2_priceFrom 100 = .ok (.iload 4, 2) := by decide +kernel
theorem dX2_priceFrom_102 : decode cX2_priceFrom 102 = .ok (.iconst 1, 1) := by decide +kernel
theorem dX2_priceFrom_103 : decode cX2_priceFrom 103 = .ok (.iadd, 1) := by decide +kernel
theorem dX2_priceFrom_104 : decode cX2_priceFrom 104 = .ok (.iload_n 1, 1) := by decide +kernel
theorem dX2_priceFrom_105 : decode cX2_priceFrom 105 = .ok (.isub, 1) := by decide +kernel
theorem dX2_priceFrom_106 : decode cX2_priceFrom 106 = .ok (.invokevirtual 125, 3) := by decide +kernel
theorem dX2_priceFrom_109 : decode cX2_priceFrom 109 = .ok (.aload_n 0, 1) := by decide +kernel
theorem dX2_priceFrom_110 : decode cX2_priceFrom 110 = .ok (.getfield 28, 3) := by decide +kernel
theorem dX2_priceFrom_113 : decode cX2_priceFrom 113 = .ok (.iload 4, 2) := by decide +kernel
theorem dX2_priceFrom_115 : decode cX2_priceFrom 115 = .ok (.iconst 1, 1) := by decide +kernel
theorem dX2_priceFrom_116 : decode cX2_priceFrom 116 = .ok (.iadd, 1) := by decide +kernel
theorem dX2_priceFrom_117 : decode cX2_priceFrom 117 = .ok (.iaload, 1) := by decide +kernel
theorem dX2_priceFrom_118 : decode cX2_priceFrom 118 = .ok (.iadd, 1) := by decide +kernel
theorem dX2_priceFrom_119 : decode cX2_priceFrom 119 = .ok (.istore 6, 2) := by decide +kernel
theorem dX2_priceFrom_121 : decode cX2_priceFrom 121 = .ok (.aload_n 0, 1) := by decide +kernel
theorem dX2_priceFrom_122 : decode cX2_priceFrom 122 = .ok (.getfield 28, 3) := by decide +kernel
theorem dX2_priceFrom_125 : decode cX2_priceFrom 125 = .ok (.iload_n 1, 1) := by decide +kernel
theorem dX2_priceFrom_126 : decode cX2_priceFrom 126 = .ok (.iaload, 1) := by decide +kernel
theorem dX2_priceFrom_127 : decode cX2_priceFrom 127 = .ok (.ifCond .lt 14, 3) := by decide +kernel
theorem dX2_priceFrom_130 : decode cX2_priceFrom 130 = .ok (.iload 6, 2) := by decide +kernel
theorem dX2_priceFrom_132 : decode cX2_priceFrom 132 = .ok (.aload_n 0, 1) := by decide +kernel
theorem dX2_priceFrom_133 : decode cX2_priceFrom 133 = .ok (.getfield 28, 3) := by decide +kernel
theorem dX2_priceFrom_136 : decode cX2_priceFrom 136 = .ok (.iload_n 1, 1) := by decide +kernel
theorem dX2_priceFrom_137 : decode cX2_priceFrom 137 = .ok (.iaload, 1) := by decide +kernel
theorem dX2_priceFrom_138 : decode cX2_priceFrom 138 = .ok (.if_icmp .gt 21, 3) := by decide +kernel
theorem dX2_priceFrom_141 : decode cX2_priceFrom 141 = .ok (.aload_n 0, 1) := by decide +kernel
theorem dX2_priceFrom_142 : decode cX2_priceFrom 142 = .ok (.getfield 28, 3) := by decide +kernel
theorem dX2_priceFrom_145 : decode cX2_priceFrom 145 = .ok (.iload_n 1, 1) := by decide +kernel
theorem dX2_priceFrom_146 : decode cX2_priceFrom 146 = .ok (.iload 6, 2) := by decide +kernel
theorem dX2_priceFrom_148 : decode cX2_priceFrom 148 = .ok (.iastore, 1) := by decide +kernel
theorem dX2_priceFrom_149 : decode cX2_priceFrom 149 = .ok (.aload_n 0, 1) := by decide +kernel
theorem dX2_priceFrom_150 : decode cX2_priceFrom 150 = .ok (.getfield 31, 3) := by decide +kernel
theorem dX2_priceFrom_153 : decode cX2_priceFrom 153 = .ok (.iload_n 1, 1) := by decide +kernel
theorem dX2_priceFrom_154 : decode cX2_priceFrom 154 = .ok (.iload 4, 2) := by decide +kernel
theorem dX2_priceFrom_156 : decode cX2_priceFrom 156 = .ok (.iconst 1, 1) := by decide +kernel
theorem dX2_priceFrom_157 : decode cX2_priceFrom 157 = .ok (.iadd, 1) := by decide +kernel
theorem dX2_priceFrom_158 : decode cX2_priceFrom 158 = .ok (.iastore, 1) := by decide +kernel
theorem dX2_priceFrom_159 : decode cX2_priceFrom 159 = .ok (.iinc 4 1, 3) := by decide +kernel
theorem dX2_priceFrom_162 : decode cX2_priceFrom 162 = .ok (.goto (-138), 3) := by decide +kernel
theorem dX2_priceFrom_165 : decode cX2_priceFrom 165 = .ok (.return_, 1) := by decide +kernel
theorem dX2_endsLine_0 : decode cX2_endsLine 0 = .ok (.iload_n 1, 1) := by decide +kernel
theorem dX2_endsLine_1 : decode cX2_endsLine 1 = .ok (.iconst 1, 1) := by decide +kernel
theorem dX2_endsLine_2 : decode cX2_endsLine 2 = .ok (.iadd, 1) := by decide +kernel
theorem dX2_endsLine_3 : decode cX2_endsLine 3 = .ok (.aload_n 0, 1) := by decide +kernel
theorem dX2_endsLine_4 : decode cX2_endsLine 4 = .ok (.getfield 46, 3) := by decide +kernel
theorem dX2_endsLine_7 : decode cX2_endsLine 7 = .ok (.if_icmp .ge 12, 3) := by decide +kernel
theorem dX2_endsLine_10 : decode cX2_endsLine 10 = .ok (.aload_n 0, 1) := by decide +kernel
theorem dX2_endsLine_11 : decode cX2_endsLine 11 = .ok (.getfield 18, 3) := by decide +kernel
theorem dX2_endsLine_14 : decode cX2_endsLine 14 = .ok (.iload_n 1, 1) := by decide +kernel
theorem dX2_endsLine_15 : decode cX2_endsLine 15 = .ok (.baload, 1) := by decide +kernel
theorem dX2_endsLine_16 : decode cX2_endsLine 16 = .ok (.ifCond .ne 7, 3) := by decide +kernel
theorem dX2_endsLine_19 : decode cX2_endsLine 19 = .ok (.iconst 1, 1) := by decide +kernel
theorem dX2_endsLine_20 : decode cX2_endsLine 20 = .ok (.goto 4, 3) := by decide +kernel
theorem dX2_endsLine_23 : decode cX2_endsLine 23 = .ok (.iconst 0, 1) := by decide +kernel
theorem dX2_endsLine_24 : decode cX2_endsLine 24 = .ok (.ireturn, 1) := by decide +kernel
theorem dX2_setFor_0 : decode cX2_setFor 0 = .ok (.aload_n 0, 1) := by decide +kernel
theorem dX2_setFor_1 : decode cX2_setFor 1 = .ok (.getfield 77, 3) := by decide +kernel
theorem dX2_setFor_4 : decode cX2_setFor 4 = .ok (.ifCond .ne 5, 3) := by decide +kernel
theorem dX2_setFor_7 : decode cX2_setFor 7 = .ok (.iload_n 1, 1) := by decide +kernel
theorem dX2_setFor_8 : decode cX2_setFor 8 = .ok (.ireturn, 1) := by decide +kernel
theorem dX2_setFor_9 : decode cX2_setFor 9 = .ok (.iconst 0, 1) := by decide +kernel
theorem dX2_setFor_10 : decode cX2_setFor 10 = .ok (.istore_n 2, 1) := by decide +kernel
theorem dX2_setFor_11 : decode cX2_setFor 11 = .ok (.iconst 0, 1) := by decide +kernel
theorem dX2_setFor_12 : decode cX2_setFor 12 = .ok (.istore_n 3, 1) := by decide +kernel
theorem dX2_setFor_13 : decode cX2_setFor 13 = .ok (.iload_n 3, 1) := by decide +kernel
theorem dX2_setFor_14 : decode cX2_setFor 14 = .ok (.aload_n 0, 1) := by decide +kernel
theorem dX2_setFor_15 : decode cX2_setFor 15 = .ok (.getfield 77, 3) := by decide +kernel
theorem dX2_setFor_18 : decode cX2_setFor 18 = .ok (.if_icmp .ge 40, 3) := by decide +kernel
theorem dX2_setFor_21 : decode cX2_setFor 21 = .ok (.aload_n 0, 1) := by decide +kernel
theorem dX2_setFor_22 : decode cX2_setFor 22 = .ok (.getfield 22, 3) := by decide +kernel
theorem dX2_setFor_25 : decode cX2_setFor 25 = .ok (.iload_n 3, 1) := by decide +kernel
theorem dX2_setFor_26 : decode cX2_setFor 26 = .ok (.iaload, 1) := by decide +kernel
theorem dX2_setFor_27 : decode cX2_setFor 27 = .ok (.iload_n 1, 1) := by decide +kernel
theorem dX2_setFor_28 : decode cX2_setFor 28 = .ok (.if_icmp .lt 24, 3) := by decide +kernel
theorem dX2_setFor_31 : decode cX2_setFor 31 = .ok (.iload_n 2, 1) := by decide +kernel
theorem dX2_setFor_32 : decode cX2_setFor 32 = .ok (.ifCond .eq 13, 3) := by decide +kernel
theorem dX2_setFor_35 : decode cX2_setFor 35 = .ok (.aload_n 0, 1) := by decide +kernel
theorem dX2_setFor_36 : decode cX2_setFor 36 = .ok (.getfield 22, 3) := by decide +kernel
theorem dX2_setFor_39 : decode cX2_setFor 39 = .ok (.iload_n 3, 1) := by decide +kernel
theorem dX2_setFor_40 : decode cX2_setFor 40 = .ok (.iaload, 1) := by decide +kernel
theorem dX2_setFor_41 : decode cX2_setFor 41 = .ok (.iload_n 2, 1) := by decide +kernel
theorem dX2_setFor_42 : decode cX2_setFor 42 = .ok (.if_icmp .ge 10, 3) := by decide +kernel
theorem dX2_setFor_45 : decode cX2_setFor 45 = .ok (.aload_n 0, 1) := by decide +kernel
theorem dX2_setFor_46 : decode cX2_setFor 46 = .ok (.getfield 22, 3) := by decide +kernel
theorem dX2_setFor_49 : decode cX2_setFor 49 = .ok (.iload_n 3, 1) := by decide +kernel
theorem dX2_setFor_50 : decode cX2_setFor 50 = .ok (.iaload, 1) := by decide +kernel
theorem dX2_setFor_51 : decode cX2_setFor 51 = .ok (.istore_n 2, 1) := by decide +kernel
theorem dX2_setFor_52 : decode cX2_setFor 52 = .ok (.iinc 3 1, 3) := by decide +kernel
theorem dX2_setFor_55 : decode cX2_setFor 55 = .ok (.goto (-42), 3) := by decide +kernel
theorem dX2_setFor_58 : decode cX2_setFor 58 = .ok (.iload_n 2, 1) := by decide +kernel
theorem dX2_setFor_59 : decode cX2_setFor 59 = .ok (.ireturn, 1) := by decide +kernel
theorem dX2_priceOf_0 : decode cX2_priceOf 0 = .ok (.aload_n 0, 1) := by decide +kernel
theorem dX2_priceOf_1 : decode cX2_priceOf 1 = .ok (.getfield 70, 3) := by decide +kernel
theorem dX2_priceOf_4 : decode cX2_priceOf 4 = .ok (.ifnonnull 10, 3) := by decide +kernel
theorem dX2_priceOf_7 : decode cX2_priceOf 7 = .ok (.iload_n 1, 1) := by decide +kernel
theorem dX2_priceOf_8 : decode cX2_priceOf 8 = .ok (.aload_n 0, 1) := by decide +kernel
theorem dX2_priceOf_9 : decode cX2_priceOf 9 = .ok (.getfield 61, 3) := by decide +kernel
theorem dX2_priceOf_12 : decode cX2_priceOf 12 = .ok (.iadd, 1) := by decide +kernel
theorem dX2_priceOf_13 : decode cX2_priceOf 13 = .ok (.ireturn, 1) := by decide +kernel
theorem dX2_priceOf_14 : decode cX2_priceOf 14 = .ok (.iload_n 1, 1) := by decide +kernel
theorem dX2_priceOf_15 : decode cX2_priceOf 15 = .ok (.bipush 25, 2) := by decide +kernel
theorem dX2_priceOf_17 : decode cX2_priceOf 17 = .ok (.imul, 1) := by decide +kernel
theorem dX2_priceOf_18 : decode cX2_priceOf 18 = .ok (.iload_n 2, 1) := by decide +kernel
theorem dX2_priceOf_19 : decode cX2_priceOf 19 = .ok (.iadd, 1) := by decide +kernel
theorem dX2_priceOf_20 : decode cX2_priceOf 20 = .ok (.istore_n 3, 1) := by decide +kernel
theorem dX2_priceOf_21 : decode cX2_priceOf 21 = .ok (.iload_n 3, 1) := by decide +kernel
theorem dX2_priceOf_22 : decode cX2_priceOf 22 = .ok (.iconst 0, 1) := by decide +kernel
theorem dX2_priceOf_23 : decode cX2_priceOf 23 = .ok (.aload_n 0, 1) := by decide +kernel
theorem dX2_priceOf_24 : decode cX2_priceOf 24 = .ok (.getfield 25, 3) := by decide +kernel
theorem dX2_priceOf_27 : decode cX2_priceOf 27 = .ok (.arraylength, 1) := by decide +kernel
theorem dX2_priceOf_28 : decode cX2_priceOf 28 = .ok (.iconst 1, 1) := by decide +kernel
theorem dX2_priceOf_29 : decode cX2_priceOf 29 = .ok (.isub, 1) := by decide +kernel
theorem dX2_priceOf_30 : decode cX2_priceOf 30 = .ok (.invokestatic 95, 3) := by decide +kernel
theorem dX2_priceOf_33 : decode cX2_priceOf 33 = .ok (.ifCond .ne 5, 3) := by decide +kernel
theorem dX2_priceOf_36 : decode cX2_priceOf 36 = .ok (.iconst 0, 1) := by decide +kernel
theorem dX2_priceOf_37 : decode cX2_priceOf 37 = .ok (.ireturn, 1) := by decide +kernel
theorem dX2_priceOf_38 : decode cX2_priceOf 38 = .ok (.aload_n 0, 1) := by decide +kernel
theorem dX2_priceOf_39 : decode cX2_priceOf 39 = .ok (.getfield 25, 3) := by decide +kernel
theorem dX2_priceOf_42 : decode cX2_priceOf 42 = .ok (.iload_n 3, 1) := by decide +kernel
theorem dX2_priceOf_43 : decode cX2_priceOf 43 = .ok (.iaload, 1) := by decide +kernel
theorem dX2_priceOf_44 : decode cX2_priceOf 44 = .ok (.ifCond .ge 29, 3) := by decide +kernel
theorem dX2_priceOf_47 : decode cX2_priceOf 47 = .ok (.aload_n 0, 1) := by decide +kernel
theorem dX2_priceOf_48 : decode cX2_priceOf 48 = .ok (.getfield 25, 3) := by decide +kernel
theorem dX2_priceOf_51 : decode cX2_priceOf 51 = .ok (.iload_n 3, 1) := by decide +kernel
theorem dX2_priceOf_52 : decode cX2_priceOf 52 = .ok (.aload_n 0, 1) := by decide +kernel
theorem dX2_priceOf_53 : decode cX2_priceOf 53 = .ok (.getfield 70, 3) := by decide +kernel
theorem dX2_priceOf_56 : decode cX2_priceOf 56 = .ok (.iload_n 1, 1) := by decide +kernel
theorem dX2_priceOf_57 : decode cX2_priceOf 57 = .ok (.iload_n 2, 1) := by decide +kernel
theorem dX2_priceOf_58 : decode cX2_priceOf 58 = .ok (.aload_n 0, 1) := by decide +kernel
theorem dX2_priceOf_59 : decode cX2_priceOf 59 = .ok (.getfield 61, 3) := by decide +kernel
theorem dX2_priceOf_62 : decode cX2_priceOf 62 = .ok (.invokevirtual 128, 3) := by decide +kernel
theorem dX2_priceOf_65 : decode cX2_priceOf 65 = .ok (.iconst 0, 1) := by decide +kernel
theorem dX2_priceOf_66 : decode cX2_priceOf 66 = .ok (.sipush 9999, 3) := by decide +kernel
theorem dX2_priceOf_69 : decode cX2_priceOf 69 = .ok (.invokestatic 134, 3) := by decide +kernel
theorem dX2_priceOf_72 : decode cX2_priceOf 72 = .ok (.iastore, 1) := by decide +kernel
theorem dX2_priceOf_73 : decode cX2_priceOf 73 = .ok (.aload_n 0, 1) := by decide +kernel
theorem dX2_priceOf_74 : decode cX2_priceOf 74 = .ok (.getfield 25, 3) := by decide +kernel
theorem dX2_priceOf_77 : decode cX2_priceOf 77 = .ok (.iload_n 3, 1) := by decide +kernel
theorem dX2_priceOf_78 : decode cX2_priceOf 78 = .ok (.iaload, 1) := by decide +kernel
theorem dX2_priceOf_79 : decode cX2_priceOf 79 = .ok (.ireturn, 1) := by decide +kernel
theorem dX2_lineOf_0 : decode cX2_lineOf 0 = .ok (.iconst 0, 1) := by decide +kernel
theorem dX2_lineOf_1 : decode cX2_lineOf 1 = .ok (.istore_n 2, 1) := by decide +kernel
theorem dX2_lineOf_2 : decode cX2_lineOf 2 = .ok (.iload_n 2, 1) := by decide +kernel
theorem dX2_lineOf_3 : decode cX2_lineOf 3 = .ok (.aload_n 0, 1) := by decide +kernel
theorem dX2_lineOf_4 : decode cX2_lineOf 4 = .ok (.getfield 99, 3) := by decide +kernel
theorem dX2_lineOf_7 : decode cX2_lineOf 7 = .ok (.if_icmp .ge 23, 3) := by decide +kernel
theorem dX2_lineOf_10 : decode cX2_lineOf 10 = .ok (.iload_n 1, 1) := by decide +kernel
theorem dX2_lineOf_11 : decode cX2_lineOf 11 = .ok (.aload_n 0, 1) := by decide +kernel
theorem dX2_lineOf_12 : decode cX2_lineOf 12 = .ok (.getfield 34, 3) := by decide +kernel
theorem dX2_lineOf_15 : decode cX2_lineOf 15 = .ok (.iload_n 2, 1) := by decide +kernel
theorem dX2_lineOf_16 : decode cX2_lineOf 16 = .ok (.iconst 1, 1) := by decide +kernel
theorem dX2_lineOf_17 : decode cX2_lineOf 17 = .ok (.iadd, 1) := by decide +kernel
theorem dX2_lineOf_18 : decode cX2_lineOf 18 = .ok (.iaload, 1) := by decide +kernel
theorem dX2_lineOf_19 : decode cX2_lineOf 19 = .ok (.if_icmp .ge 5, 3) := by decide +kernel
theorem dX2_lineOf_22 : decode cX2_lineOf 22 = .ok (.iload_n 2, 1) := by decide +kernel
theorem dX2_lineOf_23 : decode cX2_lineOf 23 = .ok (.ireturn, 1) := by decide +kernel
theorem dX2_lineOf_24 : decode cX2_lineOf 24 = .ok (.iinc 2 1, 3) := by decide +kernel
theorem dX2_lineOf_27 : decode cX2_lineOf 27 = .ok (.goto (-25), 3) := by decide +kernel
theorem dX2_lineOf_30 : decode cX2_lineOf 30 = .ok (.ldc 110, 2) := by decide +kernel
theorem dX2_lineOf_32 : decode cX2_lineOf 32 = .ok (.ireturn, 1) := by decide +kernel
theorem dX2_booksOf_0 : decode cX2_booksOf 0 = .ok (.iload_n 1, 1) := by decide +kernel
theorem dX2_booksOf_1 : decode cX2_booksOf 1 = .ok (.iconst 0, 1) := by decide +kernel
theorem dX2_booksOf_2 : decode cX2_booksOf 2 = .ok (.aload_n 0, 1) := by decide +kernel
theorem dX2_booksOf_3 : decode cX2_booksOf 3 = .ok (.getfield 99, 3) := by decide +kernel
theorem dX2_booksOf_6 : decode cX2_booksOf 6 = .ok (.iconst 1, 1) := by decide +kernel
theorem dX2_booksOf_7 : decode cX2_booksOf 7 = .ok (.isub, 1) := by decide +kernel
theorem dX2_booksOf_8 : decode cX2_booksOf 8 = .ok (.invokestatic 95, 3) := by decide +kernel
theorem dX2_booksOf_11 : decode cX2_booksOf 11 = .ok (.ifCond .eq 21, 3) := by decide +kernel
theorem dX2_booksOf_14 : decode cX2_booksOf 14 = .ok (.aload_n 0, 1) := by decide +kernel
theorem dX2_booksOf_15 : decode cX2_booksOf 15 = .ok (.getfield 34, 3) := by decide +kernel
theorem dX2_booksOf_18 : decode cX2_booksOf 18 = .ok (.iload_n 1, 1) := by decide +kernel
theorem dX2_booksOf_19 : decode cX2_booksOf 19 = .ok (.iconst 1, 1) := by decide +kernel
theorem dX2_booksOf_20 : decode cX2_booksOf 20 = .ok (.iadd, 1) := by decide +kernel
theorem dX2_booksOf_21 : decode cX2_booksOf 21 = .ok (.iaload, 1) := by decide +kernel
theorem dX2_booksOf_22 : decode cX2_booksOf 22 = .ok (.aload_n 0, 1) := by decide +kernel
theorem dX2_booksOf_23 : decode cX2_booksOf 23 = .ok (.getfield 34, 3) := by decide +kernel
theorem dX2_booksOf_26 : decode cX2_booksOf 26 = .ok (.iload_n 1, 1) := by decide +kernel
theorem dX2_booksOf_27 : decode cX2_booksOf 27 = .ok (.iaload, 1) := by decide +kernel
theorem dX2_booksOf_28 : decode cX2_booksOf 28 = .ok (.isub, 1) := by decide +kernel
theorem dX2_booksOf_29 : decode cX2_booksOf 29 = .ok (.goto 4, 3) := by decide +kernel
theorem dX2_booksOf_32 : decode cX2_booksOf 32 = .ok (.iconst 0, 1) := by decide +kernel
theorem dX2_booksOf_33 : decode cX2_booksOf 33 = .ok (.ireturn, 1) := by decide +kernel
theorem dX2_thicknessOf_0 : decode cX2_thicknessOf 0 = .ok (.iconst 0, 1) := by decide +kernel
theorem dX2_thicknessOf_1 : decode cX2_thicknessOf 1 = .ok (.istore_n 2, 1) := by decide +kernel
theorem dX2_thicknessOf_2 : decode cX2_thicknessOf 2 = .ok (.iload_n 1, 1) := by decide +kernel
theorem dX2_thicknessOf_3 : decode cX2_thicknessOf 3 = .ok (.iconst 0, 1) := by decide +kernel
theorem dX2_thicknessOf_4 : decode cX2_thicknessOf 4 = .ok (.aload_n 0, 1) := by decide +kernel
theorem dX2_thicknessOf_5 : decode cX2_thicknessOf 5 = .ok (.getfield 99, 3) := by decide +kernel
theorem dX2_thicknessOf_8 : decode cX2_thicknessOf 8 = .ok (.iconst 1, 1) := by decide +kernel
theorem dX2_thicknessOf_9 : decode cX2_thicknessOf 9 = .ok (.isub, 1) := by decide +kernel
theorem dX2_thicknessOf_10 : decode cX2_thicknessOf 10 = .ok (.invokestatic 95, 3) := by decide +kernel
theorem dX2_thicknessOf_13 : decode cX2_thicknessOf 13 = .ok (.ifCond .eq 12, 3) := by decide +kernel
theorem dX2_thicknessOf_16 : decode cX2_thicknessOf 16 = .ok (.aload_n 0, 1) := by decide +kernel
theorem dX2_thicknessOf_17 : decode cX2_thicknessOf 17 = .ok (.getfield 34, 3) := by decide +kernel
theorem dX2_thicknessOf_20 : decode cX2_thicknessOf 20 = .ok (.iload_n 1, 1) := by decide +kernel
theorem dX2_thicknessOf_21 : decode cX2_thicknessOf 21 = .ok (.iaload, 1) := by decide +kernel
theorem dX2_thicknessOf_22 : decode cX2_thicknessOf 22 = .ok (.goto 7, 3) := by decide +kernel
theorem dX2_thicknessOf_25 : decode cX2_thicknessOf 25 = .ok (.aload_n 0, 1) := by decide +kernel
theorem dX2_thicknessOf_26 : decode cX2_thicknessOf 26 = .ok (.getfield 46, 3) := by decide +kernel
theorem dX2_thicknessOf_29 : decode cX2_thicknessOf 29 = .ok (.istore_n 3, 1) := by decide +kernel
theorem dX2_thicknessOf_30 : decode cX2_thicknessOf 30 = .ok (.iconst 0, 1) := by decide +kernel
theorem dX2_thicknessOf_31 : decode cX2_thicknessOf 31 = .ok (.istore 4, 2) := by decide +kernel
theorem dX2_thicknessOf_33 : decode cX2_thicknessOf 33 = .ok (.iload 4, 2) := by decide +kernel
theorem dX2_thicknessOf_35 : decode cX2_thicknessOf 35 = .ok (.aload_n 0, 1) := by decide +kernel
theorem dX2_thicknessOf_36 : decode cX2_thicknessOf 36 = .ok (.iload_n 1, 1) := by decide +kernel
theorem dX2_thicknessOf_37 : decode cX2_thicknessOf 37 = .ok (.invokevirtual 137, 3) := by decide +kernel
theorem dX2_thicknessOf_40 : decode cX2_thicknessOf 40 = .ok (.if_icmp .ge 21, 3) := by decide +kernel
theorem dX2_thicknessOf_43 : decode cX2_thicknessOf 43 = .ok (.iload_n 2, 1) := by decide +kernel
theorem dX2_thicknessOf_44 : decode cX2_thicknessOf 44 = .ok (.aload_n 0, 1) := by decide +kernel
theorem dX2_thicknessOf_45 : decode cX2_thicknessOf 45 = .ok (.getfield 15, 3) := by decide +kernel
theorem dX2_thicknessOf_48 : decode cX2_thicknessOf 48 = .ok (.iload_n 3, 1) := by decide +kernel
theorem dX2_thicknessOf_49 : decode cX2_thicknessOf 49 = .ok (.iload 4, 2) := by decide +kernel
theorem dX2_thicknessOf_51 : decode cX2_thicknessOf 51 = .ok (.iadd, 1) := by decide +kernel
theorem dX2_thicknessOf_52 : decode cX2_thicknessOf 52 = .ok (.iaload, 1) := by decide +kernel
theorem dX2_thicknessOf_53 : decode cX2_thicknessOf 53 = .ok (.iadd, 1) := by decide +kernel
theorem dX2_thicknessOf_54 : decode cX2_thicknessOf 54 = .ok (.istore_n 2, 1) := by decide +kernel
theorem dX2_thicknessOf_55 : decode cX2_thicknessOf 55 = .ok (.iinc 4 1, 3) := by decide +kernel
theorem dX2_thicknessOf_58 : decode cX2_thicknessOf 58 = .ok (.goto (-25), 3) := by decide +kernel
theorem dX2_thicknessOf_61 : decode cX2_thicknessOf 61 = .ok (.iload_n 2, 1) := by decide +kernel
theorem dX2_thicknessOf_62 : decode cX2_thicknessOf 62 = .ok (.ireturn, 1) := by decide +kernel
theorem dX2_tallOf_0 : decode cX2_tallOf 0 = .ok (.iconst 0, 1) := by decide +kernel
theorem dX2_tallOf_1 : decode cX2_tallOf 1 = .ok (.istore_n 2, 1) := by decide +kernel
theorem dX2_tallOf_2 : decode cX2_tallOf 2 = .ok (.iload_n 1, 1) := by decide +kernel
theorem dX2_tallOf_3 : decode cX2_tallOf 3 = .ok (.iconst 0, 1) := by decide +kernel
theorem dX2_tallOf_4 : decode cX2_tallOf 4 = .ok (.aload_n 0, 1) := by decide +kernel
theorem dX2_tallOf_5 : decode cX2_tallOf 5 = .ok (.getfield 99, 3) := by decide +kernel
theorem dX2_tallOf_8 : decode cX2_tallOf 8 = .ok (.iconst 1, 1) := by decide +kernel
theorem dX2_tallOf_9 : decode cX2_tallOf 9 = .ok (.isub, 1) := by decide +kernel
theorem dX2_tallOf_10 : decode cX2_tallOf 10 = .ok (.invokestatic 95, 3) := by decide +kernel
theorem dX2_tallOf_13 : decode cX2_tallOf 13 = .ok (.ifCond .eq 12, 3) := by decide +kernel
theorem dX2_tallOf_16 : decode cX2_tallOf 16 = .ok (.aload_n 0, 1) := by decide +kernel
theorem dX2_tallOf_17 : decode cX2_tallOf 17 = .ok (.getfield 34, 3) := by decide +kernel
theorem dX2_tallOf_20 : decode cX2_tallOf 20 = .ok (.iload_n 1, 1) := by decide +kernel
theorem dX2_tallOf_21 : decode cX2_tallOf 21 = .ok (.iaload, 1) := by decide +kernel
theorem dX2_tallOf_22 : decode cX2_tallOf 22 = .ok (.goto 7, 3) := by decide +kernel
theorem dX2_tallOf_25 : decode cX2_tallOf 25 = .ok (.aload_n 0, 1) := by decide +kernel
theorem dX2_tallOf_26 : decode cX2_tallOf 26 = .ok (.getfield 46, 3) := by decide +kernel
theorem dX2_tallOf_29 : decode cX2_tallOf 29 = .ok (.istore_n 3, 1) := by decide +kernel
theorem dX2_tallOf_30 : decode cX2_tallOf 30 = .ok (.iconst 0, 1) := by decide +kernel
theorem dX2_tallOf_31 : decode cX2_tallOf 31 = .ok (.istore 4, 2) := by decide +kernel
theorem dX2_tallOf_33 : decode cX2_tallOf 33 = .ok (.iload 4, 2) := by decide +kernel
theorem dX2_tallOf_35 : decode cX2_tallOf 35 = .ok (.aload_n 0, 1) := by decide +kernel
theorem dX2_tallOf_36 : decode cX2_tallOf 36 = .ok (.iload_n 1, 1) := by decide +kernel
theorem dX2_tallOf_37 : decode cX2_tallOf 37 = .ok (.invokevirtual 137, 3) := by decide +kernel
theorem dX2_tallOf_40 : decode cX2_tallOf 40 = .ok (.if_icmp .ge 23, 3) := by decide +kernel
theorem dX2_tallOf_43 : decode cX2_tallOf 43 = .ok (.iload_n 2, 1) := by decide +kernel
theorem dX2_tallOf_44 : decode cX2_tallOf 44 = .ok (.aload_n 0, 1) := by decide +kernel
theorem dX2_tallOf_45 : decode cX2_tallOf 45 = .ok (.getfield 11, 3) := by decide +kernel
theorem dX2_tallOf_48 : decode cX2_tallOf 48 = .ok (.iload_n 3, 1) := by decide +kernel
theorem dX2_tallOf_49 : decode cX2_tallOf 49 = .ok (.iload 4, 2) := by decide +kernel
theorem dX2_tallOf_51 : decode cX2_tallOf 51 = .ok (.iadd, 1) := by decide +kernel
theorem dX2_tallOf_52 : decode cX2_tallOf 52 = .ok (.iaload, 1) := by decide +kernel
theorem dX2_tallOf_53 : decode cX2_tallOf 53 = .ok (.invokestatic 111, 3) := by decide +kernel
theorem dX2_tallOf_56 : decode cX2_tallOf 56 = .ok (.istore_n 2, 1) := by decide +kernel
theorem dX2_tallOf_57 : decode cX2_tallOf 57 = .ok (.iinc 4 1, 3) := by decide +kernel
theorem dX2_tallOf_60 : decode cX2_tallOf 60 = .ok (.goto (-27), 3) := by decide +kernel
theorem dX2_tallOf_63 : decode cX2_tallOf 63 = .ok (.iload_n 2, 1) := by decide +kernel
theorem dX2_tallOf_64 : decode cX2_tallOf 64 = .ok (.ireturn, 1) := by decide +kernel
theorem dX2_leastFilled_0 : decode cX2_leastFilled 0 = .ok (.aload_n 0, 1) := by decide +kernel
theorem dX2_leastFilled_1 : decode cX2_leastFilled 1 = .ok (.getfield 37, 3) := by decide +kernel
theorem dX2_leastFilled_4 : decode cX2_leastFilled 4 = .ok (.iconst (-1), 1) := by decide +kernel
theorem dX2_leastFilled_5 : decode cX2_leastFilled 5 = .ok (.invokestatic 89, 3) := by decide +kernel
theorem dX2_leastFilled_8 : decode cX2_leastFilled 8 = .ok (.aload_n 0, 1) := by decide +kernel
theorem dX2_leastFilled_9 : decode cX2_leastFilled 9 = .ok (.getfield 37, 3) := by decide +kernel
theorem dX2_leastFilled_12 : decode cX2_leastFilled 12 = .ok (.iconst 0, 1) := by decide +kernel
theorem dX2_leastFilled_13 : decode cX2_leastFilled 13 = .ok (.iconst 0, 1) := by decide +kernel
theorem dX2_leastFilled_14 : decode cX2_leastFilled 14 = .ok (.iastore, 1) := by decide +kernel
theorem dX2_leastFilled_15 : decode cX2_leastFilled 15 = .ok (.iconst 0, 1) := by decide +kernel
theorem dX2_leastFilled_16 : decode cX2_leastFilled 16 = .ok (.istore_n 1, 1) := by decide +kernel
theorem dX2_leastFilled_17 : decode cX2_leastFilled 17 = .ok (.iload_n 1, 1) := by decide +kernel
theorem dX2_leastFilled_18 : decode cX2_leastFilled 18 = .ok (.aload_n 0, 1) := by decide +kernel
theorem dX2_leastFilled_19 : decode cX2_leastFilled 19 = .ok (.getfield 46, 3) := by decide +kernel
theorem dX2_leastFilled_22 : decode cX2_leastFilled 22 = .ok (.if_icmp .ge 23, 3) := by decide +kernel
theorem dX2_leastFilled_25 : decode cX2_leastFilled 25 = .ok (.aload_n 0, 1) := by decide +kernel
theorem dX2_leastFilled_26 : decode cX2_leastFilled 26 = .ok (.getfield 37, 3) := by decide +kernel
theorem dX2_leastFilled_29 : decode cX2_leastFilled 29 = .ok (.iload_n 1, 1) := by decide +kernel
theorem dX2_leastFilled_30 : decode cX2_leastFilled 30 = .ok (.iaload, 1) := by decide +kernel
theorem dX2_leastFilled_31 : decode cX2_leastFilled 31 = .ok (.ifCond .lt 8, 3) := by decide +kernel
theorem dX2_leastFilled_34 : decode cX2_leastFilled 34 = .ok (.aload_n 0, 1) := by decide +kernel
theorem dX2_leastFilled_35 : decode cX2_leastFilled 35 = .ok (.iload_n 1, 1) := by decide +kernel
theorem dX2_leastFilled_36 : decode cX2_leastFilled 36 = .ok (.invokevirtual 140, 3) := by decide +kernel
theorem dX2_leastFilled_39 : decode cX2_leastFilled 39 = .ok (.iinc 1 1, 3) := by decide +kernel
theorem dX2_leastFilled_42 : decode cX2_leastFilled 42 = .ok (.goto (-25), 3) := by decide +kernel
theorem dX2_leastFilled_45 : decode cX2_leastFilled 45 = .ok (.aload_n 0, 1) := by decide +kernel
theorem dX2_leastFilled_46 : decode cX2_leastFilled 46 = .ok (.getfield 37, 3) := by decide +kernel
theorem dX2_leastFilled_49 : decode cX2_leastFilled 49 = .ok (.aload_n 0, 1) := by decide +kernel
theorem dX2_leastFilled_50 : decode cX2_leastFilled 50 = .ok (.getfield 46, 3) := by decide +kernel
theorem dX2_leastFilled_53 : decode cX2_leastFilled 53 = .ok (.iaload, 1) := by decide +kernel
theorem dX2_leastFilled_54 : decode cX2_leastFilled 54 = .ok (.ireturn, 1) := by decide +kernel
theorem dX2_fillFrom_0 : decode cX2_fillFrom 0 = .ok (.iconst 0, 1) := by decide +kernel
theorem dX2_fillFrom_1 : decode cX2_fillFrom 1 = .ok (.istore_n 2, 1) := by decide +kernel
theorem dX2_fillFrom_2 : decode cX2_fillFrom 2 = .ok (.iconst 0, 1) := by decide +kernel
theorem dX2_fillFrom_3 : decode cX2_fillFrom 3 = .ok (.istore_n 3, 1) := by decide +kernel
theorem dX2_fillFrom_4 : decode cX2_fillFrom 4 = .ok (.iload_n 1, 1) := by decide +kernel
theorem dX2_fillFrom_5 : decode cX2_fillFrom 5 = .ok (.istore 4, 2) := by decide +kernel
theorem dX2_fillFrom_7 : decode cX2_fillFrom 7 = .ok (.iload 4, 2) := by decide +kernel
theorem dX2_fillFrom_9 : decode cX2_fillFrom 9 = .ok (.aload_n 0, 1) := by decide +kernel
theorem dX2_fillFrom_10 : decode cX2_fillFrom 10 = .ok (.getfield 46, 3) := by decide +kernel
theorem dX2_fillFrom_13 : decode cX2_fillFrom 13 = .ok (.if_icmp .ge 131, 3) := by decide +kernel
theorem dX2_fillFrom_16 : decode cX2_fillFrom 16 = .ok (.iload_n 2, 1) := by decide +kernel
theorem dX2_fillFrom_17 : decode cX2_fillFrom 17 = .ok (.aload_n 0, 1) := by decide +kernel
theorem dX2_fillFrom_18 : decode cX2_fillFrom 18 = .ok (.getfield 15, 3) := by decide +kernel
theorem dX2_fillFrom_21 : decode cX2_fillFrom 21 = .ok (.iload 4, 2) := by decide +kernel
theorem dX2_fillFrom_23 : decode cX2_fillFrom 23 = .ok (.iaload, 1) := by decide +kernel
theorem dX2_fillFrom_24 : decode cX2_fillFrom 24 = .ok (.iadd, 1) := by decide +kernel
theorem dX2_fillFrom_25 : decode cX2_fillFrom 25 = .ok (.istore_n 2, 1) := by decide +kernel
theorem dX2_fillFrom_26 : decode cX2_fillFrom 26 = .ok (.iload_n 3, 1) := by decide +kernel
theorem dX2_fillFrom_27 : decode cX2_fillFrom 27 = .ok (.aload_n 0, 1) := by decide +kernel
theorem dX2_fillFrom_28 : decode cX2_fillFrom 28 = .ok (.getfield 11, 3) := by decide +kernel
theorem dX2_fillFrom_31 : decode cX2_fillFrom 31 = .ok (.iload 4, 2) := by decide +kernel
theorem dX2_fillFrom_33 : decode cX2_fillFrom 33 = .ok (.iaload, 1) := by decide +kernel
theorem dX2_fillFrom_34 : decode cX2_fillFrom 34 = .ok (.invokestatic 111, 3) := by decide +kernel
theorem dX2_fillFrom_37 : decode cX2_fillFrom 37 = .ok (.istore_n 3, 1) := by decide +kernel
theorem dX2_fillFrom_38 : decode cX2_fillFrom 38 = .ok (.iload_n 2, 1) := by decide +kernel
theorem dX2_fillFrom_39 : decode cX2_fillFrom 39 = .ok (.aload_n 0, 1) := by decide +kernel
theorem dX2_fillFrom_40 : decode cX2_fillFrom 40 = .ok (.getfield 57, 3) := by decide +kernel
theorem dX2_fillFrom_43 : decode cX2_fillFrom 43 = .ok (.if_icmp .le 4, 3) := by decide +kernel
theorem dX2_fillFrom_46 : decode cX2_fillFrom 46 = .ok (.return_, 1) := by decide +kernel
theorem dX2_fillFrom_47 : decode cX2_fillFrom 47 = .ok (.aload_n 0, 1) := by decide +kernel
theorem dX2_fillFrom_48 : decode cX2_fillFrom 48 = .ok (.iload_n 3, 1) := by decide +kernel
theorem dX2_fillFrom_49 : decode cX2_fillFrom 49 = .ok (.invokevirtual 117, 3) := by decide +kernel
theorem dX2_fillFrom_52 : decode cX2_fillFrom 52 = .ok (.istore 5, 2) := by decide +kernel
theorem dX2_fillFrom_54 : decode cX2_fillFrom 54 = .ok (.aload_n 0, 1) := by decide +kernel
theorem dX2_fillFrom_55 : decode cX2_fillFrom 55 = .ok (.iload 4, 2) := by decide +kernel
theorem dX2_fillFrom_57 : decode cX2_fillFrom 57 = .ok (.invokevirtual 121, 3) := by decide +kernel
theorem dX2_fillFrom_60 : decode cX2_fillFrom 60 = .ok (.ifCond .eq 78, 3) := by decide +kernel
theorem dX2_fillFrom_63 : decode cX2_fillFrom 63 = .ok (.iload 5, 2) := by decide +kernel
theorem dX2_fillFrom_65 : decode cX2_fillFrom 65 = .ok (.ifCond .le 73, 3) := by decide +kernel
theorem dX2_fillFrom_68 : decode cX2_fillFrom 68 = .ok (.iload 5, 2) := by decide +kernel
theorem dX2_fillFrom_70 : decode cX2_fillFrom 70 = .ok (.aload_n 0, 1) := by decide +kernel
theorem dX2_fillFrom_71 : decode cX2_fillFrom 71 = .ok (.getfield 61, 3) := by decide +kernel
theorem dX2_fillFrom_74 : decode cX2_fillFrom 74 = .ok (.iadd, 1) := by decide +kernel
theorem dX2_fillFrom_75 : decode cX2_fillFrom 75 = .ok (.aload_n 0, 1) := by decide +kernel
theorem dX2_fillFrom_76 : decode cX2_fillFrom 76 = .ok (.getfield 65, 3) := by decide +kernel
theorem dX2_fillFrom_79 : decode cX2_fillFrom 79 = .ok (.if_icmp .gt 59, 3) := by decide +kernel
theorem dX2_fillFrom_82 : decode cX2_fillFrom 82 = .ok (.aload_n 0, 1) := by decide +kernel
theorem dX2_fillFrom_83 : decode cX2_fillFrom 83 = .ok (.aload_n 0, 1) := by decide +kernel
theorem dX2_fillFrom_84 : decode cX2_fillFrom 84 = .ok (.getfield 37, 3) := by decide +kernel
theorem dX2_fillFrom_87 : decode cX2_fillFrom 87 = .ok (.iload_n 1, 1) := by decide +kernel
theorem dX2_fillFrom_88 : decode cX2_fillFrom 88 = .ok (.iaload, 1) := by decide +kernel
theorem dX2_fillFrom_89 : decode cX2_fillFrom 89 = .ok (.iload 5, 2) := by decide +kernel
theorem dX2_fillFrom_91 : decode cX2_fillFrom 91 = .ok (.aload_n 0, 1) := by decide +kernel
theorem dX2_fillFrom_92 : decode cX2_fillFrom 92 = .ok (.getfield 61, 3) := by decide +kernel
theorem dX2_fillFrom_95 : decode cX2_fillFrom 95 = .ok (.iadd, 1) := by decide +kernel
theorem dX2_fillFrom_96 : decode cX2_fillFrom 96 = .ok (.invokevirtual 143, 3) := by decide +kernel
theorem dX2_fillFrom_99 : decode cX2_fillFrom 99 = .ok (.istore 6, 2) := by decide +kernel
theorem dX2_fillFrom_101 : decode cX2_fillFrom 101 = .ok (.aload_n 0, 1) := by decide +kernel
theorem dX2_fillFrom_102 : decode cX2_fillFrom 102 = .ok (.getfield 37, 3) := by decide +kernel
theorem dX2_fillFrom_105 : decode cX2_fillFrom 105 = .ok (.iload 4, 2) := by decide +kernel
theorem dX2_fillFrom_107 : decode cX2_fillFrom 107 = .ok (.iconst 1, 1) := by decide +kernel
theorem dX2_fillFrom_108 : decode cX2_fillFrom 108 = .ok (.iadd, 1) := by decide +kernel
theorem dX2_fillFrom_109 : decode cX2_fillFrom 109 = .ok (.iaload, 1) := by decide +kernel
theorem dX2_fillFrom_110 : decode cX2_fillFrom 110 = .ok (.ifCond .lt 17, 3) := by decide +kernel
theorem dX2_fillFrom_113 : decode cX2_fillFrom 113 = .ok (.iload 6, 2) := by decide +kernel
theorem dX2_fillFrom_115 : decode cX2_fillFrom 115 = .ok (.aload_n 0, 1) := by decide +kernel
theorem dX2_fillFrom_116 : decode cX2_fillFrom 116 = .ok (.getfield 37, 3) := by decide +kernel
theorem dX2_fillFrom_119 : decode cX2_fillFrom 119 = .ok (.iload 4, 2) := by decide +kernel
theorem dX2_fillFrom_121 : decode cX2_fillFrom 121 = .ok (.iconst 1, 1) := by decide +kernel
theorem dX2_fillFrom_122 : decode cX2_fillFrom 122 = .ok (.iadd, 1) := by decide +kernel
theorem dX2_fillFrom_123 : decode cX2_fillFrom 123 = .ok (.iaload, 1) := by decide +kernel
theorem dX2_fillFrom_124 : decode cX2_fillFrom 124 = .ok (.if_icmp .ge 14, 3) := by decide +kernel
theorem dX2_fillFrom_127 : decode cX2_fillFrom 127 = .ok (.aload_n 0, 1) := by decide +kernel
theorem dX2_fillFrom_128 : decode cX2_fillFrom 128 = .ok (.getfield 37, 3) := by decide +kernel
theorem dX2_fillFrom_131 : decode cX2_fillFrom 131 = .ok (.iload 4, 2) := by decide +kernel
theorem dX2_fillFrom_133 : decode cX2_fillFrom 133 = .ok (.iconst 1, 1) := by decide +kernel
theorem dX2_fillFrom_134 : decode cX2_fillFrom 134 = .ok (.iadd, 1) := by decide +kernel
theorem dX2_fillFrom_135 : decode cX2_fillFrom 135 = .ok (.iload 6, 2) := by decide +kernel
theorem dX2_fillFrom_137 : decode cX2_fillFrom 137 = .ok (.iastore, 1) := by decide +kernel
theorem dX2_fillFrom_138 : decode cX2_fillFrom 138 = .ok (.iinc 4 1, 3) := by decide +kernel
theorem dX2_fillFrom_141 : decode cX2_fillFrom 141 = .ok (.goto (-134), 3) := by decide +kernel
theorem dX2_fillFrom_144 : decode cX2_fillFrom 144 = .ok (.return_, 1) := by decide +kernel
theorem dX2_filledBy_0 : decode cX2_filledBy 0 = .ok (.iload_n 1, 1) := by decide +kernel
theorem dX2_filledBy_1 : decode cX2_filledBy 1 = .ok (.sipush 1000, 3) := by decide +kernel
theorem dX2_filledBy_4 : decode cX2_filledBy 4 = .ok (.idiv, 1) := by decide +kernel
theorem dX2_filledBy_5 : decode cX2_filledBy 5 = .ok (.istore_n 3, 1) := by decide +kernel
theorem dX2_filledBy_6 : decode cX2_filledBy 6 = .ok (.iload_n 1, 1) := by decide +kernel
theorem dX2_filledBy_7 : decode cX2_filledBy 7 = .ok (.sipush 1000, 3) := by decide +kernel
theorem dX2_filledBy_10 : decode cX2_filledBy 10 = .ok (.irem, 1) := by decide +kernel
theorem dX2_filledBy_11 : decode cX2_filledBy 11 = .ok (.istore 4, 2) := by decide +kernel
theorem dX2_filledBy_13 : decode cX2_filledBy 13 = .ok (.iload_n 3, 1) := by decide +kernel
theorem dX2_filledBy_14 : decode cX2_filledBy 14 = .ok (.ifCond .le 18, 3) := by decide +kernel
theorem dX2_filledBy_17 : decode cX2_filledBy 17 = .ok (.iload 4, 2) := by decide +kernel
theorem dX2_filledBy_19 : decode cX2_filledBy 19 = .ok (.iload_n 2, 1) := by decide +kernel
theorem dX2_filledBy_20 : decode cX2_filledBy 20 = .ok (.iadd, 1) := by decide +kernel
theorem dX2_filledBy_21 : decode cX2_filledBy 21 = .ok (.aload_n 0, 1) := by decide +kernel
theorem dX2_filledBy_22 : decode cX2_filledBy 22 = .ok (.getfield 65, 3) := by decide +kernel
theorem dX2_filledBy_25 : decode cX2_filledBy 25 = .ok (.if_icmp .gt 7, 3) := by decide +kernel
theorem dX2_filledBy_28 : decode cX2_filledBy 28 = .ok (.iload_n 1, 1) := by decide +kernel
theorem dX2_filledBy_29 : decode cX2_filledBy 29 = .ok (.iload_n 2, 1) := by decide +kernel
theorem dX2_filledBy_30 : decode cX2_filledBy 30 = .ok (.iadd, 1) := by decide +kernel
theorem dX2_filledBy_31 : decode cX2_filledBy 31 = .ok (.ireturn, 1) := by decide +kernel
theorem dX2_filledBy_32 : decode cX2_filledBy 32 = .ok (.iload_n 3, 1) := by decide +kernel
theorem dX2_filledBy_33 : decode cX2_filledBy 33 = .ok (.iconst 1, 1) := by decide +kernel
theorem dX2_filledBy_34 : decode cX2_filledBy 34 = .ok (.iadd, 1) := by decide +kernel
theorem dX2_filledBy_35 : decode cX2_filledBy 35 = .ok (.sipush 1000, 3) := by decide +kernel
theorem dX2_filledBy_38 : decode cX2_filledBy 38 = .ok (.imul, 1) := by decide +kernel
theorem dX2_filledBy_39 : decode cX2_filledBy 39 = .ok (.iload_n 2, 1) := by decide +kernel
theorem dX2_filledBy_40 : decode cX2_filledBy 40 = .ok (.iadd, 1) := by decide +kernel
theorem dX2_filledBy_41 : decode cX2_filledBy 41 = .ok (.ireturn, 1) := by decide +kernel
theorem dX3_init_0 : decode cX3_init 0 = .ok (.aload_n 0, 1) := by decide +kernel
theorem dX3_init_1 : decode cX3_init 1 = .ok (.invokespecial 3, 3) := by decide +kernel
theorem dX3_init_4 : decode cX3_init 4 = .ok (.aload_n 0, 1) := by decide +kernel
theorem dX3_init_5 : decode cX3_init 5 = .ok (.new 9, 3) := by decide +kernel
theorem dX3_init_8 : decode cX3_init 8 = .ok (.dup, 1) := by decide +kernel
theorem dX3_init_9 : decode cX3_init 9 = .ok (.invokespecial 11, 3) := by decide +kernel
theorem dX3_init_12 : decode cX3_init 12 = .ok (.putfield 12, 3) := by decide +kernel
theorem dX3_init_15 : decode cX3_init 15 = .ok (.aload_n 0, 1) := by decide +kernel
theorem dX3_init_16 : decode cX3_init 16 = .ok (.bipush 96, 2) := by decide +kernel
theorem dX3_init_18 : decode cX3_init 18 = .ok (.newarray .int, 2) := by decide +kernel
theorem dX3_init_20 : decode cX3_init 20 = .ok (.putfield 18, 3) := by decide +kernel
theorem dX3_init_23 : decode cX3_init 23 = .ok (.return_, 1) := by decide +kernel
theorem dX3_read_0 : decode cX3_read 0 = .ok (.aload_n 0, 1) := by decide +kernel
theorem dX3_read_1 : decode cX3_read 1 = .ok (.iconst 0, 1) := by decide +kernel
theorem dX3_read_2 : decode cX3_read 2 = .ok (.putfield 22, 3) := by decide +kernel
theorem dX3_read_5 : decode cX3_read 5 = .ok (.aload_n 0, 1) := by decide +kernel
theorem dX3_read_6 : decode cX3_read 6 = .ok (.iconst 0, 1) := by decide +kernel
theorem dX3_read_7 : decode cX3_read 7 = .ok (.putfield 26, 3) := by decide +kernel
theorem dX3_read_10 : decode cX3_read 10 = .ok (.aload_n 0, 1) := by decide +kernel
theorem dX3_read_11 : decode cX3_read 11 = .ok (.getfield 12, 3) := by decide +kernel
theorem dX3_read_14 : decode cX3_read 14 = .ok (.invokevirtual 29, 3) := by decide +kernel
theorem dX3_read_17 : decode cX3_read 17 = .ok (.aload_n 0, 1) := by decide +kernel
theorem dX3_read_18 : decode cX3_read 18 = .ok (.aload_n 0, 1) := by decide +kernel
theorem dX3_read_19 : decode cX3_read 19 = .ok (.invokevirtual 32, 3) := by decide +kernel
theorem dX3_read_22 : decode cX3_read 22 = .ok (.putfield 36, 3) := by decide +kernel
theorem dX3_read_25 : decode cX3_read 25 = .ok (.aload_n 0, 1) := by decide +kernel
theorem dX3_read_26 : decode cX3_read 26 = .ok (.getfield 36, 3) := by decide +kernel
theorem dX3_read_29 : decode cX3_read 29 = .ok (.ifCond .ge 5, 3) := by decide +kernel
theorem dX3_read_32 : decode cX3_read 32 = .ok (.aconst_null, 1) := by decide +kernel
theorem dX3_read_33 : decode cX3_read 33 = .ok (.areturn, 1) := by decide +kernel
theorem dX3_read_34 : decode cX3_read 34 = .ok (.aload_n 0, 1) := by decide +kernel
theorem dX3_read_35 : decode cX3_read 35 = .ok (.getfield 12, 3) := by decide +kernel
theorem dX3_read_38 : decode cX3_read 38 = .ok (.invokevirtual 39, 3) := by decide +kernel
theorem dX3_read_41 : decode cX3_read 41 = .ok (.aload_n 0, 1) := by decide +kernel
theorem dX3_read_42 : decode cX3_read 42 = .ok (.iconst 0, 1) := by decide +kernel
theorem dX3_read_43 : decode cX3_read 43 = .ok (.iconst 0, 1) := by decide +kernel
theorem dX3_read_44 : decode cX3_read 44 = .ok (.iconst 0, 1) := by decide +kernel
theorem dX3_read_45 : decode cX3_read 45 = .ok (.invokevirtual 42, 3) := by decide +kernel
theorem dX3_read_48 : decode cX3_read 48 = .ok (.ifCond .eq 13, 3) := by decide +kernel
theorem dX3_read_51 : decode cX3_read 51 = .ok (.aload_n 0, 1) := by decide +kernel
theorem dX3_read_52 : decode cX3_read 52 = .ok (.getfield 12, 3) := by decide +kernel
theorem dX3_read_55 : decode cX3_read 55 = .ok (.getfield 46, 3) := by decide +kernel
theorem dX3_read_58 : decode cX3_read 58 = .ok (.ifCond .eq 5, 3) := by decide +kernel
theorem dX3_read_61 : decode cX3_read 61 = .ok (.aconst_null, 1) := by decide +kernel
theorem dX3_read_62 : decode cX3_read 62 = .ok (.areturn, 1) := by decide +kernel
theorem dX3_read_63 : decode cX3_read 63 = .ok (.new 49, 3) := by decide +kernel
theorem dX3_read_66 : decode cX3_read 66 = .ok (.dup, 1) := by decide +kernel
theorem dX3_read_67 : decode cX3_read 67 = .ok (.aload_n 0, 1) := by decide +kernel
theorem dX3_read_68 : decode cX3_read 68 = .ok (.getfield 36, 3) := by decide +kernel
theorem dX3_read_71 : decode cX3_read 71 = .ok (.aload_n 0, 1) := by decide +kernel
theorem dX3_read_72 : decode cX3_read 72 = .ok (.getfield 26, 3) := by decide +kernel
theorem dX3_read_75 : decode cX3_read 75 = .ok (.aload_n 0, 1) := by decide +kernel
theorem dX3_read_76 : decode cX3_read 76 = .ok (.getfield 18, 3) := by decide +kernel
theorem dX3_read_79 : decode cX3_read 79 = .ok (.aload_n 0, 1) := by decide +kernel
theorem dX3_read_80 : decode cX3_read 80 = .ok (.getfield 22, 3) := by decide +kernel
theorem dX3_read_83 : decode cX3_read 83 = .ok (.invokestatic 51, 3) := by decide +kernel
theorem dX3_read_86 : decode cX3_read 86 = .ok (.invokespecial 57, 3) := by decide +kernel
theorem dX3_read_89 : decode cX3_read 89 = .ok (.areturn, 1) := by decide +kernel
theorem dX3_keyHere_0 : decode cX3_keyHere 0 = .ok (.aload_n 0, 1) := by decide +kernel
theorem dX3_keyHere_1 : decode cX3_keyHere 1 = .ok (.getfield 12, 3) := by decide +kernel
theorem dX3_keyHere_4 : decode cX3_keyHere 4 = .ok (.ldc 60, 2) := by decide +kernel
theorem dX3_keyHere_6 : decode cX3_keyHere 6 = .ok (.invokevirtual 62, 3) := by decide +kernel
theorem dX3_keyHere_9 : decode cX3_keyHere 9 = .ok (.ifCond .eq 5, 3) := by decide +kernel
theorem dX3_keyHere_12 : decode cX3_keyHere 12 = .ok (.iconst 0, 1) := by decide +kernel
theorem dX3_keyHere_13 : decode cX3_keyHere 13 = .ok (.ireturn, 1) := by decide +kernel
theorem dX3_keyHere_14 : decode cX3_keyHere 14 = .ok (.aload_n 0, 1) := by decide +kernel
theorem dX3_keyHere_15 : decode cX3_keyHere 15 = .ok (.getfield 12, 3) := by decide +kernel
theorem dX3_keyHere_18 : decode cX3_keyHere 18 = .ok (.ldc 66, 2) := by decide +kernel
theorem dX3_keyHere_20 : decode cX3_keyHere 20 = .ok (.invokevirtual 62, 3) := by decide +kernel
theorem dX3_keyHere_23 : decode cX3_keyHere 23 = .ok (.ifCond .eq 5, 3) := by decide +kernel
theorem dX3_keyHere_26 : decode cX3_keyHere 26 = .ok (.iconst 1, 1) := by decide +kernel
theorem dX3_keyHere_27 : decode cX3_keyHere 27 = .ok (.ireturn, 1) := by decide +kernel
theorem dX3_keyHere_28 : decode cX3_keyHere 28 = .ok (.aload_n 0, 1) := by decide +kernel
theorem dX3_keyHere_29 : decode cX3_keyHere 29 = .ok (.getfield 12, 3) := by decide +kernel
theorem dX3_keyHere_32 : decode cX3_keyHere 32 = .ok (.ldc 68, 2) := by decide +kernel
theorem dX3_keyHere_34 : decode cX3_keyHere 34 = .ok (.invokevirtual 62, 3) := by decide +kernel
theorem dX3_keyHere_37 : decode cX3_keyHere 37 = .ok (.ifCond .eq 7, 3) := by decide +kernel
theorem dX3_keyHere_40 : decode cX3_keyHere 40 = .ok (.iconst 2, 1) := by decide +kernel
theorem dX3_keyHere_41 : decode cX3_keyHere 41 = .ok (.goto 4, 3) := by decide +kernel
theorem dX3_keyHere_44 : decode cX3_keyHere 44 = .ok (.iconst (-1), 1) := by decide +kernel
theorem dX3_keyHere_45 : decode cX3_keyHere 45 = .ok (.ireturn, 1) := by decide +kernel
theorem dX3_names_0 : decode cX3_names 0 = .ok (.aload_n 0, 1) := by decide +kernel
theorem dX3_names_1 : decode cX3_names 1 = .ok (.getfield 36, 3) := by decide +kernel
theorem dX3_names_4 : decode cX3_names 4 = .ok (.lookupswitch 34 #[(0, 28), (1, 31)], 28) := by decide +kernel
theorem dX3_names_32 : decode cX3_names 32 = .ok (.ldc 70, 2) := by decide +kernel
theorem dX3_names_34 : decode cX3_names 34 = .ok (.areturn, 1) := by decide +kernel
theorem dX3_names_35 : decode cX3_names 35 = .ok (.ldc 72, 2) := by decide +kernel
theorem dX3_names_37 : decode cX3_names 37 = .ok (.areturn, 1) := by decide +kernel
theorem dX3_names_38 : decode cX3_names 38 = .ok (.ldc 74, 2) := by decide +kernel
theorem dX3_names_40 : decode cX3_names 40 = .ok (.areturn, 1) := by decide +kernel
theorem dX3_reads_0 : decode cX3_reads 0 = .ok (.iload_n 1, 1) := by decide +kernel
theorem dX3_reads_1 : decode cX3_reads 1 = .ok (.iconst 5, 1) := by decide +kernel
theorem dX3_reads_2 : decode cX3_reads 2 = .ok (.if_icmp .lt 10, 3) := by decide +kernel
theorem dX3_reads_5 : decode cX3_reads 5 = .ok (.aload_n 0, 1) := by decide +kernel
theorem dX3_reads_6 : decode cX3_reads 6 = .ok (.iload_n 2, 1) := by decide +kernel
theorem dX3_reads_7 : decode cX3_reads 7 = .ok (.iload_n 3, 1) := by decide +kernel
theorem dX3_reads_8 : decode cX3_reads 8 = .ok (.invokevirtual 76, 3) := by decide +kernel
theorem dX3_reads_11 : decode cX3_reads 11 = .ok (.ireturn, 1) := by decide +kernel
theorem dX3_reads_12 : decode cX3_reads 12 = .ok (.aload_n 0, 1) := by decide +kernel
theorem dX3_reads_13 : decode cX3_reads 13 = .ok (.iload_n 1, 1) := by decide +kernel
theorem dX3_reads_14 : decode cX3_reads 14 = .ok (.iconst 1, 1) := by decide +kernel
theorem dX3_reads_15 : decode cX3_reads 15 = .ok (.iadd, 1) := by decide +kernel
theorem dX3_reads_16 : decode cX3_reads 16 = .ok (.iload_n 2, 1) := by decide +kernel
theorem dX3_reads_17 : decode cX3_reads 17 = .ok (.iload_n 3, 1) := by decide +kernel
theorem dX3_reads_18 : decode cX3_reads 18 = .ok (.invokevirtual 42, 3) := by decide +kernel
theorem dX3_reads_21 : decode cX3_reads 21 = .ok (.ifCond .ne 5, 3) := by decide +kernel
theorem dX3_reads_24 : decode cX3_reads 24 = .ok (.iconst 0, 1) := by decide +kernel
theorem dX3_reads_25 : decode cX3_reads 25 = .ok (.ireturn, 1) := by decide +kernel
theorem dX3_reads_26 : decode cX3_reads 26 = .ok (.iload_n 1, 1) := by decide +kernel
theorem dX3_reads_27 : decode cX3_reads 27 = .ok (.iconst 2, 1) := by decide +kernel
theorem dX3_reads_28 : decode cX3_reads 28 = .ok (.if_icmp .ne 7, 3) := by decide +kernel
theorem dX3_reads_31 : decode cX3_reads 31 = .ok (.iconst 1, 1) := by decide +kernel
theorem dX3_reads_32 : decode cX3_reads 32 = .ok (.goto 5, 3) := by decide +kernel
theorem dX3_reads_35 : decode cX3_reads 35 = .ok (.bipush 96, 2) := by decide +kernel
theorem dX3_reads_37 : decode cX3_reads 37 = .ok (.istore 4, 2) := by decide +kernel
theorem dX3_reads_39 : decode cX3_reads 39 = .ok (.iconst 0, 1) := by decide +kernel
theorem dX3_reads_40 : decode cX3_reads 40 = .ok (.istore 5, 2) := by decide +kernel
theorem dX3_reads_42 : decode cX3_reads 42 = .ok (.iload 5, 2) := by decide +kernel
theorem dX3_reads_44 : decode cX3_reads 44 = .ok (.iload 4, 2) := by decide +kernel
theorem dX3_reads_46 : decode cX3_reads 46 = .ok (.if_icmp .ge 60, 3) := by decide +kernel
theorem dX3_reads_49 : decode cX3_reads 49 = .ok (.iload_n 1, 1) := by decide +kernel
theorem dX3_reads_50 : decode cX3_reads 50 = .ok (.aload_n 0, 1) := by decide +kernel
theorem dX3_reads_51 : decode cX3_reads 51 = .ok (.getfield 12, 3) := by decide +kernel
theorem dX3_reads_54 : decode cX3_reads 54 = .ok (.invokevirtual 80, 3) := by decide +kernel
theorem dX3_reads_57 : decode cX3_reads 57 = .ok (.invokestatic 83, 3) := by decide +kernel
theorem dX3_reads_60 : decode cX3_reads 60 = .ok (.ifCond .eq 46, 3) := by decide +kernel
theorem dX3_reads_63 : decode cX3_reads 63 = .ok (.aload_n 0, 1) := by decide +kernel
theorem dX3_reads_64 : decode cX3_reads 64 = .ok (.getfield 12, 3) := by decide +kernel
theorem dX3_reads_67 : decode cX3_reads 67 = .ok (.invokevirtual 80, 3) := by decide +kernel
theorem dX3_reads_70 : decode cX3_reads 70 = .ok (.istore 6, 2) := by decide +kernel
theorem dX3_reads_72 : decode cX3_reads 72 = .ok (.aload_n 0, 1) := by decide +kernel
theorem dX3_reads_73 : decode cX3_reads 73 = .ok (.getfield 12, 3) := by decide +kernel
theorem dX3_reads_76 : decode cX3_reads 76 = .ok (.invokevirtual 39, 3) := by decide +kernel
theorem dX3_reads_79 : decode cX3_reads 79 = .ok (.aload_n 0, 1) := by decide +kernel
theorem dX3_reads_80 : decode cX3_reads 80 = .ok (.iload_n 1, 1) := by decide +kernel
theorem dX3_reads_81 : decode cX3_reads 81 = .ok (.iconst 1, 1) := by decide +kernel
theorem dX3_reads_82 : decode cX3_reads 82 = .ok (.iadd, 1) := by decide +kernel
theorem dX3_reads_83 : decode cX3_reads 83 = .ok (.iload_n 2, 1) := by decide +kernel
theorem dX3_reads_84 : decode cX3_reads 84 = .ok (.iload_n 3, 1) := by decide +kernel
theorem dX3_reads_85 : decode cX3_reads 85 = .ok (.invokevirtual 42, 3) := by decide +kernel
theorem dX3_reads_88 : decode cX3_reads 88 = .ok (.ifCond .ne 5, 3) := by decide +kernel
theorem dX3_reads_91 : decode cX3_reads 91 = .ok (.iconst 0, 1) := by decide +kernel
theorem dX3_reads_92 : decode cX3_reads 92 = .ok (.ireturn, 1) := by decide +kernel
theorem dX3_reads_93 : decode cX3_reads 93 = .ok (.aload_n 0, 1) := by decide +kernel
theorem dX3_reads_94 : decode cX3_reads 94 = .ok (.iload 6, 2) := by decide +kernel
theorem dX3_reads_96 : decode cX3_reads 96 = .ok (.ineg, 1) := by decide +kernel
theorem dX3_reads_97 : decode cX3_reads 97 = .ok (.invokevirtual 86, 3) := by decide +kernel
theorem dX3_reads_100 : decode cX3_reads 100 = .ok (.iinc 5 1, 3) := by decide +kernel
theorem dX3_reads_103 : decode cX3_reads 103 = .ok (.goto (-61), 3) := by decide +kernel
theorem dX3_reads_106 : decode cX3_reads 106 = .ok (.iconst 1, 1) := by decide +kernel
theorem dX3_reads_107 : decode cX3_reads 107 = .ok (.ireturn, 1) := by decide +kernel
theorem dX3_isJoint_0 : decode cX3_isJoint 0 = .ok (.iload_n 0, 1) := by decide +kernel
theorem dX3_isJoint_1 : decode cX3_isJoint 1 = .ok (.tableswitch 97 0 3 #[31, 43, 55, 79], 31) := by decide +kernel
theorem dX3_isJoint_32 : decode cX3_isJoint 32 = .ok (.iload_n 1, 1) := by decide +kernel
theorem dX3_isJoint_33 : decode cX3_isJoint 33 = .ok (.bipush 124, 2) := by decide +kernel
theorem dX3_isJoint_35 : decode cX3_isJoint 35 = .ok (.if_icmp .ne 7, 3) := by decide +kernel
theorem dX3_isJoint_38 : decode cX3_isJoint 38 = .ok (.iconst 1, 1) := by decide +kernel
theorem dX3_isJoint_39 : decode cX3_isJoint 39 = .ok (.goto 4, 3) := by decide +kernel
theorem dX3_isJoint_42 : decode cX3_isJoint 42 = .ok (.iconst 0, 1) := by decide +kernel
theorem dX3_isJoint_43 : decode cX3_isJoint 43 = .ok (.ireturn, 1) := by decide +kernel
theorem dX3_isJoint_44 : decode cX3_isJoint 44 = .ok (.iload_n 1, 1) := by decide +kernel
theorem dX3_isJoint_45 : decode cX3_isJoint 45 = .ok (.bipush 38, 2) := by decide +kernel
theorem dX3_isJoint_47 : decode cX3_isJoint 47 = .ok (.if_icmp .ne 7, 3) := by decide +kernel
theorem dX3_isJoint_50 : decode cX3_isJoint 50 = .ok (.iconst 1, 1) := by decide +kernel
theorem dX3_isJoint_51 : decode cX3_isJoint 51 = .ok (.goto 4, 3) := by decide +kernel
theorem dX3_isJoint_54 : decode cX3_isJoint 54 = .ok (.iconst 0, 1) := by decide +kernel
theorem dX3_isJoint_55 : decode cX3_isJoint 55 = .ok (.ireturn, 1) := by decide +kernel
theorem dX3_isJoint_56 : decode cX3_isJoint 56 = .ok (.iload_n 1, 1) := by decide +kernel
theorem dX3_isJoint_57 : decode cX3_isJoint 57 = .ok (.bipush 60, 2) := by decide +kernel
theorem dX3_isJoint_59 : decode cX3_isJoint 59 = .ok (.if_icmp .eq 15, 3) := by decide +kernel
theorem dX3_isJoint_62 : decode cX3_isJoint 62 = .ok (.iload_n 1, 1) := by decide +kernel
theorem dX3_isJoint_63 : decode cX3_isJoint 63 = .ok (.bipush 61, 2) := by decide +kernel
theorem dX3_isJoint_65 : decode cX3_isJoint 65 = .ok (.if_icmp .eq 9, 3) := by decide +kernel
theorem dX3_isJoint_68 : decode cX3_isJoint 68 = .ok (.iload_n 1, 1) := by decide +kernel
theorem dX3_isJoint_69 : decode cX3_isJoint 69 = .ok (.bipush 62, 2) := by decide +kernel
theorem dX3_isJoint_71 : decode cX3_isJoint 71 = .ok (.if_icmp .ne 7, 3) := by decide +kernel
theorem dX3_isJoint_74 : decode cX3_isJoint 74 = .ok (.iconst 1, 1) := by decide +kernel
theorem dX3_isJoint_75 : decode cX3_isJoint 75 = .ok (.goto 4, 3) := by decide +kernel
theorem dX3_isJoint_78 : decode cX3_isJoint 78 = .ok (.iconst 0, 1) := by decide +kernel
theorem dX3_isJoint_79 : decode cX3_isJoint 79 = .ok (.ireturn, 1) := by decide +kernel
theorem dX3_isJoint_80 : decode cX3_isJoint 80 = .ok (.iload_n 1, 1) := by decide +kernel
theorem dX3_isJoint_81 : decode cX3_isJoint 81 = .ok (.bipush 43, 2) := by decide +kernel
theorem dX3_isJoint_83 : decode cX3_isJoint 83 = .ok (.if_icmp .eq 9, 3) := by decide +kernel
theorem dX3_isJoint_86 : decode cX3_isJoint 86 = .ok (.iload_n 1, 1) := by decide +kernel
theorem dX3_isJoint_87 : decode cX3_isJoint 87 = .ok (.bipush 45, 2) := by decide +kernel
theorem dX3_isJoint_89 : decode cX3_isJoint 89 = .ok (.if_icmp .ne 7, 3) := by decide +kernel
theorem dX3_isJoint_92 : decode cX3_isJoint 92 = .ok (.iconst 1, 1) := by decide +kernel
theorem dX3_isJoint_93 : decode cX3_isJoint 93 = .ok (.goto 4, 3) := by decide +kernel
theorem dX3_isJoint_96 : decode cX3_isJoint 96 = .ok (.iconst 0, 1) := by decide +kernel
theorem dX3_isJoint_97 : decode cX3_isJoint 97 = .ok (.ireturn, 1) := by decide +kernel
theorem dX3_isJoint_98 : decode cX3_isJoint 98 = .ok (.iload_n 1, 1) := by decide +kernel
theorem dX3_isJoint_99 : decode cX3_isJoint 99 = .ok (.bipush 42, 2) := by decide +kernel
theorem dX3_isJoint_101 : decode cX3_isJoint 101 = .ok (.if_icmp .eq 9, 3) := by decide +kernel
theorem dX3_isJoint_104 : decode cX3_isJoint 104 = .ok (.iload_n 1, 1) := by decide +kernel
theorem dX3_isJoint_105 : decode cX3_isJoint 105 = .ok (.bipush 47, 2) := by decide +kernel
theorem dX3_isJoint_107 : decode cX3_isJoint 107 = .ok (.if_icmp .ne 7, 3) := by decide +kernel
theorem dX3_isJoint_110 : decode cX3_isJoint 110 = .ok (.iconst 1, 1) := by decide +kernel
theorem dX3_isJoint_111 : decode cX3_isJoint 111 = .ok (.goto 4, 3) := by decide +kernel
theorem dX3_isJoint_114 : decode cX3_isJoint 114 = .ok (.iconst 0, 1) := by decide +kernel
theorem dX3_isJoint_115 : decode cX3_isJoint 115 = .ok (.ireturn, 1) := by decide +kernel
theorem dX3_readsPiece_0 : decode cX3_readsPiece 0 = .ok (.aload_n 0, 1) := by decide +kernel
theorem dX3_readsPiece_1 : decode cX3_readsPiece 1 = .ok (.getfield 12, 3) := by decide +kernel
theorem dX3_readsPiece_4 : decode cX3_readsPiece 4 = .ok (.getfield 46, 3) := by decide +kernel
theorem dX3_readsPiece_7 : decode cX3_readsPiece 7 = .ok (.iconst 2, 1) := by decide +kernel
theorem dX3_readsPiece_8 : decode cX3_readsPiece 8 = .ok (.if_icmp .ne 15, 3) := by decide +kernel
theorem dX3_readsPiece_11 : decode cX3_readsPiece 11 = .ok (.aload_n 0, 1) := by decide +kernel
theorem dX3_readsPiece_12 : decode cX3_readsPiece 12 = .ok (.aload_n 0, 1) := by decide +kernel
theorem dX3_readsPiece_13 : decode cX3_readsPiece 13 = .ok (.getfield 12, 3) := by decide +kernel
theorem dX3_readsPiece_16 : decode cX3_readsPiece 16 = .ok (.invokevirtual 90, 3) := by decide +kernel
theorem dX3_readsPiece_19 : decode cX3_readsPiece 19 = .ok (.invokevirtual 93, 3) := by decide +kernel
theorem dX3_readsPiece_22 : decode cX3_readsPiece 22 = .ok (.ireturn, 1) := by decide +kernel
theorem dX3_readsPiece_23 : decode cX3_readsPiece 23 = .ok (.aload_n 0, 1) := by decide +kernel
theorem dX3_readsPiece_24 : decode cX3_readsPiece 24 = .ok (.getfield 12, 3) := by decide +kernel
theorem dX3_readsPiece_27 : decode cX3_readsPiece 27 = .ok (.getfield 46, 3) := by decide +kernel
theorem dX3_readsPiece_30 : decode cX3_readsPiece 30 = .ok (.iconst 1, 1) := by decide +kernel
theorem dX3_readsPiece_31 : decode cX3_readsPiece 31 = .ok (.if_icmp .ne 35, 3) := by decide +kernel
theorem dX3_readsPiece_34 : decode cX3_readsPiece 34 = .ok (.aload_n 0, 1) := by decide +kernel
theorem dX3_readsPiece_35 : decode cX3_readsPiece 35 = .ok (.getfield 12, 3) := by decide +kernel
theorem dX3_readsPiece_38 : decode cX3_readsPiece 38 = .ok (.aload_n 0, 1) := by decide +kernel
theorem dX3_readsPiece_39 : decode cX3_readsPiece 39 = .ok (.invokevirtual 97, 3) := by decide +kernel
theorem dX3_readsPiece_42 : decode cX3_readsPiece 42 = .ok (.invokevirtual 101, 3) := by decide +kernel
theorem dX3_readsPiece_45 : decode cX3_readsPiece 45 = .ok (.istore_n 3, 1) := by decide +kernel
theorem dX3_readsPiece_46 : decode cX3_readsPiece 46 = .ok (.iload_n 3, 1) := by decide +kernel
theorem dX3_readsPiece_47 : decode cX3_readsPiece 47 = .ok (.ifCond .lt 17, 3) := by decide +kernel
theorem dX3_readsPiece_50 : decode cX3_readsPiece 50 = .ok (.aload_n 0, 1) := by decide +kernel
theorem dX3_readsPiece_51 : decode cX3_readsPiece 51 = .ok (.iconst (-1), 1) := by decide +kernel
theorem dX3_readsPiece_52 : decode cX3_readsPiece 52 = .ok (.iload_n 3, 1) := by decide +kernel
theorem dX3_readsPiece_53 : decode cX3_readsPiece 53 = .ok (.isub, 1) := by decide +kernel
theorem dX3_readsPiece_54 : decode cX3_readsPiece 54 = .ok (.invokevirtual 93, 3) := by decide +kernel
theorem dX3_readsPiece_57 : decode cX3_readsPiece 57 = .ok (.ifCond .eq 7, 3) := by decide +kernel
theorem dX3_readsPiece_60 : decode cX3_readsPiece 60 = .ok (.iconst 1, 1) := by decide +kernel
theorem dX3_readsPiece_61 : decode cX3_readsPiece 61 = .ok (.goto 4, 3) := by decide +kernel
theorem dX3_readsPiece_64 : decode cX3_readsPiece 64 = .ok (.iconst 0, 1) := by decide +kernel
theorem dX3_readsPiece_65 : decode cX3_readsPiece 65 = .ok (.ireturn, 1) := by decide +kernel
theorem dX3_readsPiece_66 : decode cX3_readsPiece 66 = .ok (.aload_n 0, 1) := by decide +kernel
theorem dX3_readsPiece_67 : decode cX3_readsPiece 67 = .ok (.getfield 12, 3) := by decide +kernel
theorem dX3_readsPiece_70 : decode cX3_readsPiece 70 = .ok (.invokevirtual 80, 3) := by decide +kernel
theorem dX3_readsPiece_73 : decode cX3_readsPiece 73 = .ok (.bipush 33, 2) := by decide +kernel
theorem dX3_readsPiece_75 : decode cX3_readsPiece 75 = .ok (.if_icmp .ne 37, 3) := by decide +kernel
theorem dX3_readsPiece_78 : decode cX3_readsPiece 78 = .ok (.iload_n 2, 1) := by decide +kernel
theorem dX3_readsPiece_79 : decode cX3_readsPiece 79 = .ok (.bipush 8, 2) := by decide +kernel
theorem dX3_readsPiece_81 : decode cX3_readsPiece 81 = .ok (.if_icmp .ge 31, 3) := by decide +kernel
theorem dX3_readsPiece_84 : decode cX3_readsPiece 84 = .ok (.aload_n 0, 1) := by decide +kernel
theorem dX3_readsPiece_85 : decode cX3_readsPiece 85 = .ok (.getfield 12, 3) := by decide +kernel
theorem dX3_readsPiece_88 : decode cX3_readsPiece 88 = .ok (.invokevirtual 39, 3) := by decide +kernel
theorem dX3_readsPiece_91 : decode cX3_readsPiece 91 = .ok (.aload_n 0, 1) := by decide +kernel
theorem dX3_readsPiece_92 : decode cX3_readsPiece 92 = .ok (.iload_n 1, 1) := by decide +kernel
theorem dX3_readsPiece_93 : decode cX3_readsPiece 93 = .ok (.iload_n 2, 1) := by decide +kernel
theorem dX3_readsPiece_94 : decode cX3_readsPiece 94 = .ok (.iconst 1, 1) := by decide +kernel
theorem dX3_readsPiece_95 : decode cX3_readsPiece 95 = .ok (.iadd, 1) := by decide +kernel
theorem dX3_readsPiece_96 : decode cX3_readsPiece 96 = .ok (.invokevirtual 76, 3) := by decide +kernel
theorem dX3_readsPiece_99 : decode cX3_readsPiece 99 = .ok (.ifCond .ne 5, 3) := by decide +kernel
theorem dX3_readsPiece_102 : decode cX3_readsPiece 102 = .ok (.iconst 0, 1) := by decide +kernel
theorem dX3_readsPiece_103 : decode cX3_readsPiece 103 = .ok (.ireturn, 1) := by decide +kernel
theorem dX3_readsPiece_104 : decode cX3_readsPiece 104 = .ok (.aload_n 0, 1) := by decide +kernel
theorem dX3_readsPiece_105 : decode cX3_readsPiece 105 = .ok (.bipush (-33), 2) := by decide +kernel
theorem dX3_readsPiece_107 : decode cX3_readsPiece 107 = .ok (.invokevirtual 86, 3) := by decide +kernel
theorem dX3_readsPiece_110 : decode cX3_readsPiece 110 = .ok (.iconst 1, 1) := by decide +kernel
theorem dX3_readsPiece_111 : decode cX3_readsPiece 111 = .ok (.ireturn, 1) := by decide +kernel
theorem dX3_readsPiece_112 : decode cX3_readsPiece 112 = .ok (.aload_n 0, 1) := by decide +kernel
theorem dX3_readsPiece_113 : decode cX3_readsPiece 113 = .ok (.getfield 12, 3) := by decide +kernel
theorem dX3_readsPiece_116 : decode cX3_readsPiece 116 = .ok (.invokevirtual 80, 3) := by decide +kernel
theorem dX3_readsPiece_119 : decode cX3_readsPiece 119 = .ok (.bipush 40, 2) := by decide +kernel
theorem dX3_readsPiece_121 : decode cX3_readsPiece 121 = .ok (.if_icmp .ne 51, 3) := by decide +kernel
theorem dX3_readsPiece_124 : decode cX3_readsPiece 124 = .ok (.iload_n 1, 1) := by decide +kernel
theorem dX3_readsPiece_125 : decode cX3_readsPiece 125 = .ok (.bipush 8, 2) := by decide +kernel
theorem dX3_readsPiece_127 : decode cX3_readsPiece 127 = .ok (.if_icmp .ge 45, 3) := by decide +kernel
theorem dX3_readsPiece_130 : decode cX3_readsPiece 130 = .ok (.aload_n 0, 1) := by decide +kernel
theorem dX3_readsPiece_131 : decode cX3_readsPiece 131 = .ok (.getfield 12, 3) := by decide +kernel
theorem dX3_readsPiece_134 : decode cX3_readsPiece 134 = .ok (.invokevirtual 39, 3) := by decide +kernel
theorem dX3_readsPiece_137 : decode cX3_readsPiece 137 = .ok (.aload_n 0, 1) := by decide +kernel
theorem dX3_readsPiece_138 : decode cX3_readsPiece 138 = .ok (.iconst 0, 1) := by decide +kernel
theorem dX3_readsPiece_139 : decode cX3_readsPiece 139 = .ok (.iload_n 1, 1) := by decide +kernel
theorem dX3_readsPiece_140 : decode cX3_readsPiece 140 = .ok (.iconst 1, 1) := by decide +kernel
theorem dX3_readsPiece_141 : decode cX3_readsPiece 141 = .ok (.iadd, 1) := by decide +kernel
theorem dX3_readsPiece_142 : decode cX3_readsPiece 142 = .ok (.iload_n 2, 1) := by decide +kernel
theorem dX3_readsPiece_143 : decode cX3_readsPiece 143 = .ok (.invokevirtual 42, 3) := by decide +kernel
theorem dX3_readsPiece_146 : decode cX3_readsPiece 146 = .ok (.ifCond .eq 15, 3) := by decide +kernel
theorem dX3_readsPiece_149 : decode cX3_readsPiece 149 = .ok (.aload_n 0, 1) := by decide +kernel
theorem dX3_readsPiece_150 : decode cX3_readsPiece 150 = .ok (.getfield 12, 3) := by decide +kernel
theorem dX3_readsPiece_153 : decode cX3_readsPiece 153 = .ok (.invokevirtual 80, 3) := by decide +kernel
theorem dX3_readsPiece_156 : decode cX3_readsPiece 156 = .ok (.bipush 41, 2) := by decide +kernel
theorem dX3_readsPiece_158 : decode cX3_readsPiece 158 = .ok (.if_icmp .eq 5, 3) := by decide +kernel
theorem dX3_readsPiece_161 : decode cX3_readsPiece 161 = .ok (.iconst 0, 1) := by decide +kernel
theorem dX3_readsPiece_162 : decode cX3_readsPiece 162 = .ok (.ireturn, 1) := by decide +kernel
theorem dX3_readsPiece_163 : decode cX3_readsPiece 163 = .ok (.aload_n 0, 1) := by decide +kernel
theorem dX3_readsPiece_164 : decode cX3_readsPiece 164 = .ok (.getfield 12, 3) := by decide +kernel
theorem dX3_readsPiece_167 : decode cX3_readsPiece 167 = .ok (.invokevirtual 39, 3) := by decide +kernel
theorem dX3_readsPiece_170 : decode cX3_readsPiece 170 = .ok (.iconst 1, 1) := by decide +kernel
theorem dX3_readsPiece_171 : decode cX3_readsPiece 171 = .ok (.ireturn, 1) := by decide +kernel
theorem dX3_readsPiece_172 : decode cX3_readsPiece 172 = .ok (.iconst 0, 1) := by decide +kernel
theorem dX3_readsPiece_173 : decode cX3_readsPiece 173 = .ok (.ireturn, 1) := by decide +kernel
theorem dX3_readsOperand_0 : decode cX3_readsOperand 0 = .ok (.aload_n 0, 1) := by decide +kernel
theorem dX3_readsOperand_1 : decode cX3_readsOperand 1 = .ok (.iload_n 1, 1) := by decide +kernel
theorem dX3_readsOperand_2 : decode cX3_readsOperand 2 = .ok (.invokevirtual 86, 3) := by decide +kernel
theorem dX3_readsOperand_5 : decode cX3_readsOperand 5 = .ok (.aload_n 0, 1) := by decide +kernel
theorem dX3_readsOperand_6 : decode cX3_readsOperand 6 = .ok (.dup, 1) := by decide +kernel
theorem dX3_readsOperand_7 : decode cX3_readsOperand 7 = .ok (.getfield 26, 3) := by decide +kernel
theorem dX3_readsOperand_10 : decode cX3_readsOperand 10 = .ok (.iconst 1, 1) := by decide +kernel
theorem dX3_readsOperand_11 : decode cX3_readsOperand 11 = .ok (.iadd, 1) := by decide +kernel
theorem dX3_readsOperand_12 : decode cX3_readsOperand 12 = .ok (.putfield 26, 3) := by decide +kernel
theorem dX3_readsOperand_15 : decode cX3_readsOperand 15 = .ok (.aload_n 0, 1) := by decide +kernel
theorem dX3_readsOperand_16 : decode cX3_readsOperand 16 = .ok (.getfield 12, 3) := by decide +kernel
theorem dX3_readsOperand_19 : decode cX3_readsOperand 19 = .ok (.invokevirtual 39, 3) := by decide +kernel
theorem dX3_readsOperand_22 : decode cX3_readsOperand 22 = .ok (.iconst 1, 1) := by decide +kernel
theorem dX3_readsOperand_23 : decode cX3_readsOperand 23 = .ok (.ireturn, 1) := by decide +kernel
theorem dX3_put_0 : decode cX3_put 0 = .ok (.aload_n 0, 1) := by decide +kernel
theorem dX3_put_1 : decode cX3_put 1 = .ok (.getfield 22, 3) := by decide +kernel
theorem dX3_put_4 : decode cX3_put 4 = .ok (.bipush 96, 2) := by decide +kernel
theorem dX3_put_6 : decode cX3_put 6 = .ok (.if_icmp .ge 23, 3) := by decide +kernel
theorem dX3_put_9 : decode cX3_put 9 = .ok (.aload_n 0, 1) := by decide +kernel
theorem dX3_put_10 : decode cX3_put 10 = .ok (.getfield 18, 3) := by decide +kernel
theorem dX3_put_13 : decode cX3_put 13 = .ok (.aload_n 0, 1) := by decide +kernel
theorem dX3_put_14 : decode cX3_put 14 = .ok (.getfield 22, 3) := by decide +kernel
theorem dX3_put_17 : decode cX3_put 17 = .ok (.iload_n 1, 1) := by decide +kernel
theorem dX3_put_18 : decode cX3_put 18 = .ok (.iastore, 1) := by decide +kernel
theorem dX3_put_19 : decode cX3_put 19 = .ok (.aload_n 0, 1) := by decide +kernel
theorem dX3_put_20 : decode cX3_put 20 = .ok (.dup, 1) := by decide +kernel
theorem dX3_put_21 : decode cX3_put 21 = .ok (.getfield 22, 3) := by decide +kernel
theorem dX3_put_24 : decode cX3_put 24 = .ok (.iconst 1, 1) := by decide +kernel
theorem dX3_put_25 : decode cX3_put 25 = .ok (.iadd, 1) := by decide +kernel
theorem dX3_put_26 : decode cX3_put 26 = .ok (.putfield 22, 3) := by decide +kernel
theorem dX3_put_29 : decode cX3_put 29 = .ok (.return_, 1) := by decide +kernel
theorem dX4_init_0 : decode cX4_init 0 = .ok (.aload_n 0, 1) := by decide +kernel
theorem dX4_init_1 : decode cX4_init 1 = .ok (.invokespecial 3, 3) := by decide +kernel
theorem dX4_init_4 : decode cX4_init 4 = .ok (.aload_n 0, 1) := by decide +kernel
theorem dX4_init_5 : decode cX4_init 5 = .ok (.iconst (-1), 1) := by decide +kernel
theorem dX4_init_6 : decode cX4_init 6 = .ok (.putfield 9, 3) := by decide +kernel
theorem dX4_init_9 : decode cX4_init 9 = .ok (.aload_n 0, 1) := by decide +kernel
theorem dX4_init_10 : decode cX4_init 10 = .ok (.bipush 24, 2) := by decide +kernel
theorem dX4_init_12 : decode cX4_init 12 = .ok (.newarray .int, 2) := by decide +kernel
theorem dX4_init_14 : decode cX4_init 14 = .ok (.putfield 15, 3) := by decide +kernel
theorem dX4_init_17 : decode cX4_init 17 = .ok (.return_, 1) := by decide +kernel
theorem dX4_become_0 : decode cX4_become 0 = .ok (.aload_n 0, 1) := by decide +kernel
theorem dX4_become_1 : decode cX4_become 1 = .ok (.iload_n 1, 1) := by decide +kernel
theorem dX4_become_2 : decode cX4_become 2 = .ok (.putfield 9, 3) := by decide +kernel
theorem dX4_become_5 : decode cX4_become 5 = .ok (.aload_n 0, 1) := by decide +kernel
theorem dX4_become_6 : decode cX4_become 6 = .ok (.iload_n 2, 1) := by decide +kernel
theorem dX4_become_7 : decode cX4_become 7 = .ok (.iconst 0, 1) := by decide +kernel
theorem dX4_become_8 : decode cX4_become 8 = .ok (.bipush 24, 2) := by decide +kernel
theorem dX4_become_10 : decode cX4_become 10 = .ok (.invokestatic 19, 3) := by decide +kernel
theorem dX4_become_13 : decode cX4_become 13 = .ok (.putfield 23, 3) := by decide +kernel
theorem dX4_become_16 : decode cX4_become 16 = .ok (.aload_n 0, 1) := by decide +kernel
theorem dX4_become_17 : decode cX4_become 17 = .ok (.getfield 15, 3) := by decide +kernel
theorem dX4_become_20 : decode cX4_become 20 = .ok (.iconst 0, 1) := by decide +kernel
theorem dX4_become_21 : decode cX4_become 21 = .ok (.invokestatic 26, 3) := by decide +kernel
theorem dX4_become_24 : decode cX4_become 24 = .ok (.return_, 1) := by decide +kernel
theorem dX4_becomeAs_0 : decode cX4_becomeAs 0 = .ok (.aload_n 0, 1) := by decide +kernel
theorem dX4_becomeAs_1 : decode cX4_becomeAs 1 = .ok (.aload_n 1, 1) := by decide +kernel
theorem dX4_becomeAs_2 : decode cX4_becomeAs 2 = .ok (.getfield 9, 3) := by decide +kernel
theorem dX4_becomeAs_5 : decode cX4_becomeAs 5 = .ok (.putfield 9, 3) := by decide +kernel
theorem dX4_becomeAs_8 : decode cX4_becomeAs 8 = .ok (.aload_n 0, 1) := by decide +kernel
theorem dX4_becomeAs_9 : decode cX4_becomeAs 9 = .ok (.aload_n 1, 1) := by decide +kernel
theorem dX4_becomeAs_10 : decode cX4_becomeAs 10 = .ok (.getfield 23, 3) := by decide +kernel
theorem dX4_becomeAs_13 : decode cX4_becomeAs 13 = .ok (.putfield 23, 3) := by decide +kernel
theorem dX4_becomeAs_16 : decode cX4_becomeAs 16 = .ok (.aload_n 1, 1) := by decide +kernel
theorem dX4_becomeAs_17 : decode cX4_becomeAs 17 = .ok (.getfield 15, 3) := by decide +kernel
theorem dX4_becomeAs_20 : decode cX4_becomeAs 20 = .ok (.iconst 0, 1) := by decide +kernel
theorem dX4_becomeAs_21 : decode cX4_becomeAs 21 = .ok (.aload_n 0, 1) := by decide +kernel
theorem dX4_becomeAs_22 : decode cX4_becomeAs 22 = .ok (.getfield 15, 3) := by decide +kernel
theorem dX4_becomeAs_25 : decode cX4_becomeAs 25 = .ok (.iconst 0, 1) := by decide +kernel
theorem dX4_becomeAs_26 : decode cX4_becomeAs 26 = .ok (.bipush 24, 2) := by decide +kernel
theorem dX4_becomeAs_28 : decode cX4_becomeAs 28 = .ok (.invokestatic 32, 3) := by decide +kernel
theorem dX4_becomeAs_31 : decode cX4_becomeAs 31 = .ok (.return_, 1) := by decide +kernel
theorem dX4_hasPlaces_0 : decode cX4_hasPlaces 0 = .ok (.iload_n 1, 1) := by decide +kernel
theorem dX4_hasPlaces_1 : decode cX4_hasPlaces 1 = .ok (.iconst 0, 1) := by decide +kernel
theorem dX4_hasPlaces_2 : decode cX4_hasPlaces 2 = .ok (.aload_n 0, 1) := by decide +kernel
theorem dX4_hasPlaces_3 : decode cX4_hasPlaces 3 = .ok (.getfield 23, 3) := by decide +kernel
theorem dX4_hasPlaces_6 : decode cX4_hasPlaces 6 = .ok (.invokestatic 38, 3) := by decide +kernel
theorem dX4_hasPlaces_9 : decode cX4_hasPlaces 9 = .ok (.ifCond .eq 21, 3) := by decide +kernel
theorem dX4_hasPlaces_12 : decode cX4_hasPlaces 12 = .ok (.iload_n 2, 1) := by decide +kernel
theorem dX4_hasPlaces_13 : decode cX4_hasPlaces 13 = .ok (.iconst 0, 1) := by decide +kernel
theorem dX4_hasPlaces_14 : decode cX4_hasPlaces 14 = .ok (.aload_n 0, 1) := by decide +kernel
theorem dX4_hasPlaces_15 : decode cX4_hasPlaces 15 = .ok (.getfield 23, 3) := by decide +kernel
theorem dX4_hasPlaces_18 : decode cX4_hasPlaces 18 = .ok (.iload_n 1, 1) := by decide +kernel
theorem dX4_hasPlaces_19 : decode cX4_hasPlaces 19 = .ok (.isub, 1) := by decide +kernel
theorem dX4_hasPlaces_20 : decode cX4_hasPlaces 20 = .ok (.invokestatic 38, 3) := by decide +kernel
theorem dX4_hasPlaces_23 : decode cX4_hasPlaces 23 = .ok (.ifCond .eq 7, 3) := by decide +kernel
theorem dX4_hasPlaces_26 : decode cX4_hasPlaces 26 = .ok (.iconst 1, 1) := by decide +kernel
theorem dX4_hasPlaces_27 : decode cX4_hasPlaces 27 = .ok (.goto 4, 3) := by decide +kernel
theorem dX4_hasPlaces_30 : decode cX4_hasPlaces 30 = .ok (.iconst 0, 1) := by decide +kernel
theorem dX4_hasPlaces_31 : decode cX4_hasPlaces 31 = .ok (.ireturn, 1) := by decide +kernel
theorem dX4_sizes_0 : decode cX4_sizes 0 = .ok (.iconst 0, 1) := by decide +kernel
theorem dX4_sizes_1 : decode cX4_sizes 1 = .ok (.istore_n 1, 1) := by decide +kernel
theorem dX4_sizes_2 : decode cX4_sizes 2 = .ok (.iload_n 1, 1) := by decide +kernel
theorem dX4_sizes_3 : decode cX4_sizes 3 = .ok (.aload_n 0, 1) := by decide +kernel
theorem dX4_sizes_4 : decode cX4_sizes 4 = .ok (.getfield 23, 3) := by decide +kernel
theorem dX4_sizes_7 : decode cX4_sizes 7 = .ok (.if_icmp .ge 23, 3) := by decide +kernel
theorem dX4_sizes_10 : decode cX4_sizes 10 = .ok (.aload_n 0, 1) := by decide +kernel
theorem dX4_sizes_11 : decode cX4_sizes 11 = .ok (.getfield 15, 3) := by decide +kernel
theorem dX4_sizes_14 : decode cX4_sizes 14 = .ok (.iload_n 1, 1) := by decide +kernel
theorem dX4_sizes_15 : decode cX4_sizes 15 = .ok (.iaload, 1) := by decide +kernel
theorem dX4_sizes_16 : decode cX4_sizes 16 = .ok (.invokestatic 42, 3) := by decide +kernel
theorem dX4_sizes_19 : decode cX4_sizes 19 = .ok (.ifCond .ne 5, 3) := by decide +kernel
theorem dX4_sizes_22 : decode cX4_sizes 22 = .ok (.iload_n 1, 1) := by decide +kernel
theorem dX4_sizes_23 : decode cX4_sizes 23 = .ok (.ireturn, 1) := by decide +kernel
theorem dX4_sizes_24 : decode cX4_sizes 24 = .ok (.iinc 1 1, 3) := by decide +kernel
theorem dX4_sizes_27 : decode cX4_sizes 27 = .ok (.goto (-25), 3) := by decide +kernel
theorem dX4_sizes_30 : decode cX4_sizes 30 = .ok (.aload_n 0, 1) := by decide +kernel
theorem dX4_sizes_31 : decode cX4_sizes 31 = .ok (.getfield 23, 3) := by decide +kernel
theorem dX4_sizes_34 : decode cX4_sizes 34 = .ok (.ireturn, 1) := by decide +kernel
theorem dX5_init_0 : decode cX5_init 0 = .ok (.aload_n 0, 1) := by decide +kernel
theorem dX5_init_1 : decode cX5_init 1 = .ok (.invokespecial 3, 3) := by decide +kernel
theorem dX5_init_4 : decode cX5_init 4 = .ok (.aload_n 0, 1) := by decide +kernel
theorem dX5_init_5 : decode cX5_init 5 = .ok (.new 9, 3) := by decide +kernel
theorem dX5_init_8 : decode cX5_init 8 = .ok (.dup, 1) := by decide +kernel
theorem dX5_init_9 : decode cX5_init 9 = .ok (.invokespecial 11, 3) := by decide +kernel
theorem dX5_init_12 : decode cX5_init 12 = .ok (.putfield 12, 3) := by decide +kernel
theorem dX5_init_15 : decode cX5_init 15 = .ok (.aload_n 0, 1) := by decide +kernel
theorem dX5_init_16 : decode cX5_init 16 = .ok (.new 18, 3) := by decide +kernel
theorem dX5_init_19 : decode cX5_init 19 = .ok (.dup, 1) := by decide +kernel
theorem dX5_init_20 : decode cX5_init 20 = .ok (.invokespecial 20, 3) := by decide +kernel
theorem dX5_init_23 : decode cX5_init 23 = .ok (.putfield 21, 3) := by decide +kernel
theorem dX5_init_26 : decode cX5_init 26 = .ok (.return_, 1) := by decide +kernel
theorem dX5_finding_0 : decode cX5_finding 0 = .ok (.aload_n 0, 1) := by decide +kernel
theorem dX5_finding_1 : decode cX5_finding 1 = .ok (.getfield 25, 3) := by decide +kernel
theorem dX5_finding_4 : decode cX5_finding 4 = .ok (.ifCond .ne 6, 3) := by decide +kernel
theorem dX5_finding_7 : decode cX5_finding 7 = .ok (.ldc 29, 2) := by decide +kernel
theorem dX5_finding_9 : decode cX5_finding 9 = .ok (.ireturn, 1) := by decide +kernel
theorem dX5_finding_10 : decode cX5_finding 10 = .ok (.aload_n 0, 1) := by decide +kernel
theorem dX5_finding_11 : decode cX5_finding 11 = .ok (.getfield 25, 3) := by decide +kernel
theorem dX5_finding_14 : decode cX5_finding 14 = .ok (.iload_n 1, 1) := by decide +kernel
theorem dX5_finding_15 : decode cX5_finding 15 = .ok (.if_icmp .ne 7, 3) := by decide +kernel
theorem dX5_finding_18 : decode cX5_finding 18 = .ok (.iconst 0, 1) := by decide +kernel
theorem dX5_finding_19 : decode cX5_finding 19 = .ok (.goto 5, 3) := by decide +kernel
theorem dX5_finding_22 : decode cX5_finding 22 = .ok (.ldc 30, 2) := by decide +kernel
theorem dX5_finding_24 : decode cX5_finding 24 = .ok (.ireturn, 1) := by decide +kernel
theorem dX6_init_0 : decode cX6_init 0 = .ok (.aload_n 0, 1) := by decide +kernel
theorem dX6_init_1 : decode cX6_init 1 = .ok (.invokespecial 3, 3) := by decide +kernel
theorem dX6_init_4 : decode cX6_init 4 = .ok (.aload_n 0, 1) := by decide +kernel
theorem dX6_init_5 : decode cX6_init 5 = .ok (.bipush 24, 2) := by decide +kernel
theorem dX6_init_7 : decode cX6_init 7 = .ok (.newarray .int, 2) := by decide +kernel
theorem dX6_init_9 : decode cX6_init 9 = .ok (.putfield 9, 3) := by decide +kernel
theorem dX6_init_12 : decode cX6_init 12 = .ok (.aload_n 0, 1) := by decide +kernel
theorem dX6_init_13 : decode cX6_init 13 = .ok (.bipush 24, 2) := by decide +kernel
theorem dX6_init_15 : decode cX6_init 15 = .ok (.newarray .int, 2) := by decide +kernel
theorem dX6_init_17 : decode cX6_init 17 = .ok (.putfield 15, 3) := by decide +kernel
theorem dX6_init_20 : decode cX6_init 20 = .ok (.aload_n 0, 1) := by decide +kernel
theorem dX6_init_21 : decode cX6_init 21 = .ok (.bipush 24, 2) := by decide +kernel
theorem dX6_init_23 : decode cX6_init 23 = .ok (.newarray .int, 2) := by decide +kernel
theorem dX6_init_25 : decode cX6_init 25 = .ok (.putfield 18, 3) := by decide +kernel
theorem dX6_init_28 : decode cX6_init 28 = .ok (.aload_n 0, 1) := by decide +kernel
theorem dX6_init_29 : decode cX6_init 29 = .ok (.bipush 24, 2) := by decide +kernel
theorem dX6_init_31 : decode cX6_init 31 = .ok (.newarray .boolean, 2) := by decide +kernel
theorem dX6_init_33 : decode cX6_init 33 = .ok (.putfield 21, 3) := by decide +kernel
theorem dX6_init_36 : decode cX6_init 36 = .ok (.aload_n 0, 1) := by decide +kernel
theorem dX6_init_37 : decode cX6_init 37 = .ok (.bipush 100, 2) := by decide +kernel
theorem dX6_init_39 : decode cX6_init 39 = .ok (.putfield 25, 3) := by decide +kernel
theorem dX6_init_42 : decode cX6_init 42 = .ok (.aload_n 0, 1) := by decide +kernel
theorem dX6_init_43 : decode cX6_init 43 = .ok (.iconst 2, 1) := by decide +kernel
theorem dX6_init_44 : decode cX6_init 44 = .ok (.putfield 29, 3) := by decide +kernel
theorem dX6_init_47 : decode cX6_init 47 = .ok (.aload_n 0, 1) := by decide +kernel
theorem dX6_init_48 : decode cX6_init 48 = .ok (.sipush 336, 3) := by decide +kernel
theorem dX6_init_51 : decode cX6_init 51 = .ok (.putfield 32, 3) := by decide +kernel
theorem dX6_init_54 : decode cX6_init 54 = .ok (.aload_n 0, 1) := by decide +kernel
theorem dX6_init_55 : decode cX6_init 55 = .ok (.iconst 1, 1) := by decide +kernel
theorem dX6_init_56 : decode cX6_init 56 = .ok (.putfield 35, 3) := by decide +kernel
theorem dX6_init_59 : decode cX6_init 59 = .ok (.aload_n 0, 1) := by decide +kernel
theorem dX6_init_60 : decode cX6_init 60 = .ok (.bipush 12, 2) := by decide +kernel
theorem dX6_init_62 : decode cX6_init 62 = .ok (.anewarray 38, 3) := by decide +kernel
theorem dX6_init_65 : decode cX6_init 65 = .ok (.putfield 40, 3) := by decide +kernel
theorem dX6_init_68 : decode cX6_init 68 = .ok (.aload_n 0, 1) := by decide +kernel
theorem dX6_init_69 : decode cX6_init 69 = .ok (.bipush 6, 2) := by decide +kernel
theorem dX6_init_71 : decode cX6_init 71 = .ok (.newarray .int, 2) := by decide +kernel
theorem dX6_init_73 : decode cX6_init 73 = .ok (.putfield 44, 3) := by decide +kernel
theorem dX6_init_76 : decode cX6_init 76 = .ok (.aload_n 0, 1) := by decide +kernel
theorem dX6_init_77 : decode cX6_init 77 = .ok (.bipush 14, 2) := by decide +kernel
theorem dX6_init_79 : decode cX6_init 79 = .ok (.anewarray 47, 3) := by decide +kernel
theorem dX6_init_82 : decode cX6_init 82 = .ok (.putfield 49, 3) := by decide +kernel
theorem dX6_init_85 : decode cX6_init 85 = .ok (.iconst 0, 1) := by decide +kernel
theorem dX6_init_86 : decode cX6_init 86 = .ok (.istore_n 1, 1) := by decide +kernel
theorem dX6_init_87 : decode cX6_init 87 = .ok (.iload_n 1, 1) := by decide +kernel
theorem dX6_init_88 : decode cX6_init 88 = .ok (.bipush 12, 2) := by decide +kernel
theorem dX6_init_90 : decode cX6_init 90 = .ok (.if_icmp .ge 22, 3) := by decide +kernel
theorem dX6_init_93 : decode cX6_init 93 = .ok (.aload_n 0, 1) := by decide +kernel
theorem dX6_init_94 : decode cX6_init 94 = .ok (.getfield 40, 3) := by decide +kernel
theorem dX6_init_97 : decode cX6_init 97 = .ok (.iload_n 1, 1) := by decide +kernel
theorem dX6_init_98 : decode cX6_init 98 = .ok (.new 38, 3) := by decide +kernel
theorem dX6_init_101 : decode cX6_init 101 = .ok (.dup, 1) := by decide +kernel
theorem dX6_init_102 : decode cX6_init 102 = .ok (.invokespecial 53, 3) := by decide +kernel
theorem dX6_init_105 : decode cX6_init 105 = .ok (.aastore, 1) := by decide +kernel
theorem dX6_init_106 : decode cX6_init 106 = .ok (.iinc 1 1, 3) := by decide +kernel
theorem dX6_init_109 : decode cX6_init 109 = .ok (.goto (-22), 3) := by decide +kernel
theorem dX6_init_112 : decode cX6_init 112 = .ok (.return_, 1) := by decide +kernel
theorem dX6_become_0 : decode cX6_become 0 = .ok (.aload_n 0, 1) := by decide +kernel
theorem dX6_become_1 : decode cX6_become 1 = .ok (.aload_n 1, 1) := by decide +kernel
theorem dX6_become_2 : decode cX6_become 2 = .ok (.getfield 54, 3) := by decide +kernel
theorem dX6_become_5 : decode cX6_become 5 = .ok (.putfield 54, 3) := by decide +kernel
theorem dX6_become_8 : decode cX6_become 8 = .ok (.iconst 0, 1) := by decide +kernel
theorem dX6_become_9 : decode cX6_become 9 = .ok (.istore_n 2, 1) := by decide +kernel
theorem dX6_become_10 : decode cX6_become 10 = .ok (.iload_n 2, 1) := by decide +kernel
theorem dX6_become_11 : decode cX6_become 11 = .ok (.bipush 24, 2) := by decide +kernel
theorem dX6_become_13 : decode cX6_become 13 = .ok (.if_icmp .ge 57, 3) := by decide +kernel
theorem dX6_become_16 : decode cX6_become 16 = .ok (.aload_n 0, 1) := by decide +kernel
theorem dX6_become_17 : decode cX6_become 17 = .ok (.getfield 9, 3) := by decide +kernel
theorem dX6_become_20 : decode cX6_become 20 = .ok (.iload_n 2, 1) := by decide +kernel
theorem dX6_become_21 : decode cX6_become 21 = .ok (.aload_n 1, 1) := by decide +kernel
theorem dX6_become_22 : decode cX6_become 22 = .ok (.getfield 9, 3) := by decide +kernel
theorem dX6_become_25 : decode cX6_become 25 = .ok (.iload_n 2, 1) := by decide +kernel
theorem dX6_become_26 : decode cX6_become 26 = .ok (.iaload, 1) := by decide +kernel
theorem dX6_become_27 : decode cX6_become 27 = .ok (.iastore, 1) := by decide +kernel
theorem dX6_become_28 : decode cX6_become 28 = .ok (.aload_n 0, 1) := by decide +kernel
theorem dX6_become_29 : decode cX6_become 29 = .ok (.getfield 15, 3) := by decide +kernel
theorem dX6_become_32 : decode cX6_become 32 = .ok (.iload_n 2, 1) := by decide +kernel
theorem dX6_become_33 : decode cX6_become 33 = .ok (.aload_n 1, 1) := by decide +kernel
theorem dX6_become_34 : decode cX6_become 34 = .ok (.getfield 15, 3) := by decide +kernel
theorem dX6_become_37 : decode cX6_become 37 = .ok (.iload_n 2, 1) := by decide +kernel
theorem dX6_become_38 : decode cX6_become 38 = .ok (.iaload, 1) := by decide +kernel
theorem dX6_become_39 : decode cX6_become 39 = .ok (.iastore, 1) := by decide +kernel
theorem dX6_become_40 : decode cX6_become 40 = .ok (.aload_n 0, 1) := by decide +kernel
theorem dX6_become_41 : decode cX6_become 41 = .ok (.getfield 18, 3) := by decide +kernel
theorem dX6_become_44 : decode cX6_become 44 = .ok (.iload_n 2, 1) := by decide +kernel
theorem dX6_become_45 : decode cX6_become 45 = .ok (.aload_n 1, 1) := by decide +kernel
theorem dX6_become_46 : decode cX6_become 46 = .ok (.getfield 18, 3) := by decide +kernel
theorem dX6_become_49 : decode cX6_become 49 = .ok (.iload_n 2, 1) := by decide +kernel
theorem dX6_become_50 : decode cX6_become 50 = .ok (.iaload, 1) := by decide +kernel
theorem dX6_become_51 : decode cX6_become 51 = .ok (.iastore, 1) := by decide +kernel
theorem dX6_become_52 : decode cX6_become 52 = .ok (.aload_n 0, 1) := by decide +kernel
theorem dX6_become_53 : decode cX6_become 53 = .ok (.getfield 21, 3) := by decide +kernel
theorem dX6_become_56 : decode cX6_become 56 = .ok (.iload_n 2, 1) := by decide +kernel
theorem dX6_become_57 : decode cX6_become 57 = .ok (.aload_n 1, 1) := by decide +kernel
theorem dX6_become_58 : decode cX6_become 58 = .ok (.getfield 21, 3) := by decide +kernel
theorem dX6_become_61 : decode cX6_become 61 = .ok (.iload_n 2, 1) := by decide +kernel
theorem dX6_become_62 : decode cX6_become 62 = .ok (.baload, 1) := by decide +kernel
theorem dX6_become_63 : decode cX6_become 63 = .ok (.bastore, 1) := by decide +kernel
theorem dX6_become_64 : decode cX6_become 64 = .ok (.iinc 2 1, 3) := by decide +kernel
theorem dX6_become_67 : decode cX6_become 67 = .ok (.goto (-57), 3) := by decide +kernel
theorem dX6_become_70 : decode cX6_become 70 = .ok (.aload_n 0, 1) := by decide +kernel
theorem dX6_become_71 : decode cX6_become 71 = .ok (.aload_n 1, 1) := by decide +kernel
theorem dX6_become_72 : decode cX6_become 72 = .ok (.getfield 25, 3) := by decide +kernel
theorem dX6_become_75 : decode cX6_become 75 = .ok (.putfield 25, 3) := by decide +kernel
theorem dX6_become_78 : decode cX6_become 78 = .ok (.aload_n 0, 1) := by decide +kernel
theorem dX6_become_79 : decode cX6_become 79 = .ok (.aload_n 1, 1) := by decide +kernel
theorem dX6_become_80 : decode cX6_become 80 = .ok (.getfield 29, 3) := by decide +kernel
theorem dX6_become_83 : decode cX6_become 83 = .ok (.putfield 29, 3) := by decide +kernel
theorem dX6_become_86 : decode cX6_become 86 = .ok (.aload_n 0, 1) := by decide +kernel
theorem dX6_become_87 : decode cX6_become 87 = .ok (.aload_n 1, 1) := by decide +kernel
theorem dX6_become_88 : decode cX6_become 88 = .ok (.getfield 32, 3) := by decide +kernel
theorem dX6_become_91 : decode cX6_become 91 = .ok (.putfield 32, 3) := by decide +kernel
theorem dX6_become_94 : decode cX6_become 94 = .ok (.aload_n 0, 1) := by decide +kernel
theorem dX6_become_95 : decode cX6_become 95 = .ok (.aload_n 1, 1) := by decide +kernel
theorem dX6_become_96 : decode cX6_become 96 = .ok (.getfield 35, 3) := by decide +kernel
theorem dX6_become_99 : decode cX6_become 99 = .ok (.putfield 35, 3) := by decide +kernel
theorem dX6_become_102 : decode cX6_become 102 = .ok (.aload_n 0, 1) := by decide +kernel
theorem dX6_become_103 : decode cX6_become 103 = .ok (.aload_n 1, 1) := by decide +kernel
theorem dX6_become_104 : decode cX6_become 104 = .ok (.getfield 57, 3) := by decide +kernel
theorem dX6_become_107 : decode cX6_become 107 = .ok (.putfield 57, 3) := by decide +kernel
theorem dX6_become_110 : decode cX6_become 110 = .ok (.iconst 0, 1) := by decide +kernel
theorem dX6_become_111 : decode cX6_become 111 = .ok (.istore_n 2, 1) := by decide +kernel
theorem dX6_become_112 : decode cX6_become 112 = .ok (.iload_n 2, 1) := by decide +kernel
theorem dX6_become_113 : decode cX6_become 113 = .ok (.bipush 12, 2) := by decide +kernel
theorem dX6_become_115 : decode cX6_become 115 = .ok (.if_icmp .ge 24, 3) := by decide +kernel
theorem dX6_become_118 : decode cX6_become 118 = .ok (.aload_n 0, 1) := by decide +kernel
theorem dX6_become_119 : decode cX6_become 119 = .ok (.getfield 40, 3) := by decide +kernel
theorem dX6_become_122 : decode cX6_become 122 = .ok (.iload_n 2, 1) := by decide +kernel
theorem dX6_become_123 : decode cX6_become 123 = .ok (.aaload, 1) := by decide +kernel
theorem dX6_become_124 : decode cX6_become 124 = .ok (.aload_n 1, 1) := by decide +kernel
theorem dX6_become_125 : decode cX6_become 125 = .ok (.getfield 40, 3) := by decide +kernel
theorem dX6_become_128 : decode cX6_become 128 = .ok (.iload_n 2, 1) := by decide +kernel
theorem dX6_become_129 : decode cX6_become 129 = .ok (.aaload, 1) := by decide +kernel
theorem dX6_become_130 : decode cX6_become 130 = .ok (.invokevirtual 60, 3) := by decide +kernel
theorem dX6_become_133 : decode cX6_become 133 = .ok (.iinc 2 1, 3) := by decide +kernel
theorem dX6_become_136 : decode cX6_become 136 = .ok (.goto (-24), 3) := by decide +kernel
theorem dX6_become_139 : decode cX6_become 139 = .ok (.aload_n 0, 1) := by decide +kernel
theorem dX6_become_140 : decode cX6_become 140 = .ok (.aload_n 1, 1) := by decide +kernel
theorem dX6_become_141 : decode cX6_become 141 = .ok (.getfield 64, 3) := by decide +kernel
theorem dX6_become_144 : decode cX6_become 144 = .ok (.putfield 64, 3) := by decide +kernel
theorem dX6_become_147 : decode cX6_become 147 = .ok (.aload_n 1, 1) := by decide +kernel
theorem dX6_become_148 : decode cX6_become 148 = .ok (.getfield 44, 3) := by decide +kernel
theorem dX6_become_151 : decode cX6_become 151 = .ok (.iconst 0, 1) := by decide +kernel
theorem dX6_become_152 : decode cX6_become 152 = .ok (.aload_n 0, 1) := by decide +kernel
theorem dX6_become_153 : decode cX6_become 153 = .ok (.getfield 44, 3) := by decide +kernel
theorem dX6_become_156 : decode cX6_become 156 = .ok (.iconst 0, 1) := by decide +kernel
theorem dX6_become_157 : decode cX6_become 157 = .ok (.bipush 6, 2) := by decide +kernel
theorem dX6_become_159 : decode cX6_become 159 = .ok (.invokestatic 67, 3) := by decide +kernel
theorem dX6_become_162 : decode cX6_become 162 = .ok (.aload_n 0, 1) := by decide +kernel
theorem dX6_become_163 : decode cX6_become 163 = .ok (.aload_n 1, 1) := by decide +kernel
theorem dX6_become_164 : decode cX6_become 164 = .ok (.getfield 73, 3) := by decide +kernel
theorem dX6_become_167 : decode cX6_become 167 = .ok (.putfield 73, 3) := by decide +kernel
theorem dX6_become_170 : decode cX6_become 170 = .ok (.iconst 0, 1) := by decide +kernel
theorem dX6_become_171 : decode cX6_become 171 = .ok (.istore_n 2, 1) := by decide +kernel
theorem dX6_become_172 : decode cX6_become 172 = .ok (.iload_n 2, 1) := by decide +kernel
theorem dX6_become_173 : decode cX6_become 173 = .ok (.bipush 14, 2) := by decide +kernel
theorem dX6_become_175 : decode cX6_become 175 = .ok (.if_icmp .ge 21, 3) := by decide +kernel
theorem dX6_become_178 : decode cX6_become 178 = .ok (.aload_n 0, 1) := by decide +kernel
theorem dX6_become_179 : decode cX6_become 179 = .ok (.getfield 49, 3) := by decide +kernel
theorem dX6_become_182 : decode cX6_become 182 = .ok (.iload_n 2, 1) := by decide +kernel
theorem dX6_become_183 : decode cX6_become 183 = .ok (.aload_n 1, 1) := by decide +kernel
theorem dX6_become_184 : decode cX6_become 184 = .ok (.getfield 49, 3) := by decide +kernel
theorem dX6_become_187 : decode cX6_become 187 = .ok (.iload_n 2, 1) := by decide +kernel
theorem dX6_become_188 : decode cX6_become 188 = .ok (.aaload, 1) := by decide +kernel
theorem dX6_become_189 : decode cX6_become 189 = .ok (.aastore, 1) := by decide +kernel
theorem dX6_become_190 : decode cX6_become 190 = .ok (.iinc 2 1, 3) := by decide +kernel
theorem dX6_become_193 : decode cX6_become 193 = .ok (.goto (-21), 3) := by decide +kernel
theorem dX6_become_196 : decode cX6_become 196 = .ok (.return_, 1) := by decide +kernel
theorem dX6_hasBook_0 : decode cX6_hasBook 0 = .ok (.iload_n 1, 1) := by decide +kernel
theorem dX6_hasBook_1 : decode cX6_hasBook 1 = .ok (.iconst 0, 1) := by decide +kernel
theorem dX6_hasBook_2 : decode cX6_hasBook 2 = .ok (.aload_n 0, 1) := by decide +kernel
theorem dX6_hasBook_3 : decode cX6_hasBook 3 = .ok (.getfield 54, 3) := by decide +kernel
theorem dX6_hasBook_6 : decode cX6_hasBook 6 = .ok (.iconst 1, 1) := by decide +kernel
theorem dX6_hasBook_7 : decode cX6_hasBook 7 = .ok (.isub, 1) := by decide +kernel
theorem dX6_hasBook_8 : decode cX6_hasBook 8 = .ok (.invokestatic 76, 3) := by decide +kernel
theorem dX6_hasBook_11 : decode cX6_hasBook 11 = .ok (.ireturn, 1) := by decide +kernel
theorem dX6_addBook_0 : decode cX6_addBook 0 = .ok (.aload_n 0, 1) := by decide +kernel
theorem dX6_addBook_1 : decode cX6_addBook 1 = .ok (.getfield 54, 3) := by decide +kernel
theorem dX6_addBook_4 : decode cX6_addBook 4 = .ok (.bipush 24, 2) := by decide +kernel
theorem dX6_addBook_6 : decode cX6_addBook 6 = .ok (.if_icmp .lt 6, 3) := by decide +kernel
theorem dX6_addBook_9 : decode cX6_addBook 9 = .ok (.ldc 80, 2) := by decide +kernel
theorem dX6_addBook_11 : decode cX6_addBook 11 = .ok (.ireturn, 1) := by decide +kernel
theorem dX6_addBook_12 : decode cX6_addBook 12 = .ok (.aload_n 0, 1) := by decide +kernel
theorem dX6_addBook_13 : decode cX6_addBook 13 = .ok (.getfield 9, 3) := by decide +kernel
theorem dX6_addBook_16 : decode cX6_addBook 16 = .ok (.aload_n 0, 1) := by decide +kernel
theorem dX6_addBook_17 : decode cX6_addBook 17 = .ok (.getfield 54, 3) := by decide +kernel
theorem dX6_addBook_20 : decode cX6_addBook 20 = .ok (.iload_n 1, 1) := by decide +kernel
theorem dX6_addBook_21 : decode cX6_addBook 21 = .ok (.iastore, 1) := by decide +kernel
theorem dX6_addBook_22 : decode cX6_addBook 22 = .ok (.aload_n 0, 1) := by decide +kernel
theorem dX6_addBook_23 : decode cX6_addBook 23 = .ok (.getfield 15, 3) := by decide +kernel
theorem dX6_addBook_26 : decode cX6_addBook 26 = .ok (.aload_n 0, 1) := by decide +kernel
theorem dX6_addBook_27 : decode cX6_addBook 27 = .ok (.getfield 54, 3) := by decide +kernel
theorem dX6_addBook_30 : decode cX6_addBook 30 = .ok (.iload_n 2, 1) := by decide +kernel
theorem dX6_addBook_31 : decode cX6_addBook 31 = .ok (.iastore, 1) := by decide +kernel
theorem dX6_addBook_32 : decode cX6_addBook 32 = .ok (.aload_n 0, 1) := by decide +kernel
theorem dX6_addBook_33 : decode cX6_addBook 33 = .ok (.getfield 18, 3) := by decide +kernel
theorem dX6_addBook_36 : decode cX6_addBook 36 = .ok (.aload_n 0, 1) := by decide +kernel
theorem dX6_addBook_37 : decode cX6_addBook 37 = .ok (.getfield 54, 3) := by decide +kernel
theorem dX6_addBook_40 : decode cX6_addBook 40 = .ok (.iload_n 3, 1) := by decide +kernel
theorem dX6_addBook_41 : decode cX6_addBook 41 = .ok (.iastore, 1) := by decide +kernel
theorem dX6_addBook_42 : decode cX6_addBook 42 = .ok (.aload_n 0, 1) := by decide +kernel
theorem dX6_addBook_43 : decode cX6_addBook 43 = .ok (.getfield 21, 3) := by decide +kernel
theorem dX6_addBook_46 : decode cX6_addBook 46 = .ok (.aload_n 0, 1) := by decide +kernel
theorem dX6_addBook_47 : decode cX6_addBook 47 = .ok (.getfield 54, 3) := by decide +kernel
theorem dX6_addBook_50 : decode cX6_addBook 50 = .ok (.iconst 0, 1) := by decide +kernel
theorem dX6_addBook_51 : decode cX6_addBook 51 = .ok (.bastore, 1) := by decide +kernel
theorem dX6_addBook_52 : decode cX6_addBook 52 = .ok (.aload_n 0, 1) := by decide +kernel
theorem dX6_addBook_53 : decode cX6_addBook 53 = .ok (.dup, 1) := by decide +kernel
theorem dX6_addBook_54 : decode cX6_addBook 54 = .ok (.getfield 54, 3) := by decide +kernel
theorem dX6_addBook_57 : decode cX6_addBook 57 = .ok (.iconst 1, 1) := by decide +kernel
theorem dX6_addBook_58 : decode cX6_addBook 58 = .ok (.iadd, 1) := by decide +kernel
theorem dX6_addBook_59 : decode cX6_addBook 59 = .ok (.putfield 54, 3) := by decide +kernel
theorem dX6_addBook_62 : decode cX6_addBook 62 = .ok (.aload_n 0, 1) := by decide +kernel
theorem dX6_addBook_63 : decode cX6_addBook 63 = .ok (.getfield 54, 3) := by decide +kernel
theorem dX6_addBook_66 : decode cX6_addBook 66 = .ok (.iconst 1, 1) := by decide +kernel
theorem dX6_addBook_67 : decode cX6_addBook 67 = .ok (.isub, 1) := by decide +kernel
theorem dX6_addBook_68 : decode cX6_addBook 68 = .ok (.ireturn, 1) := by decide +kernel
theorem dX6_draw_0 : decode cX6_draw 0 = .ok (.aload_n 0, 1) := by decide +kernel
theorem dX6_draw_1 : decode cX6_draw 1 = .ok (.aload_n 0, 1) := by decide +kernel
theorem dX6_draw_2 : decode cX6_draw 2 = .ok (.getfield 35, 3) := by decide +kernel
theorem dX6_draw_5 : decode cX6_draw 5 = .ok (.ldc 81, 2) := by decide +kernel
theorem dX6_draw_7 : decode cX6_draw 7 = .ok (.imul, 1) := by decide +kernel
theorem dX6_draw_8 : decode cX6_draw 8 = .ok (.sipush 12345, 3) := by decide +kernel
theorem dX6_draw_11 : decode cX6_draw 11 = .ok (.iadd, 1) := by decide +kernel
theorem dX6_draw_12 : decode cX6_draw 12 = .ok (.putfield 35, 3) := by decide +kernel
theorem dX6_draw_15 : decode cX6_draw 15 = .ok (.aload_n 0, 1) := by decide +kernel
theorem dX6_draw_16 : decode cX6_draw 16 = .ok (.getfield 35, 3) := by decide +kernel
theorem dX6_draw_19 : decode cX6_draw 19 = .ok (.bipush 8, 2) := by decide +kernel
theorem dX6_draw_21 : decode cX6_draw 21 = .ok (.iushr, 1) := by decide +kernel
theorem dX6_draw_22 : decode cX6_draw 22 = .ok (.ireturn, 1) := by decide +kernel
theorem dX6_thickness_0 : decode cX6_thickness 0 = .ok (.iconst 0, 1) := by decide +kernel
theorem dX6_thickness_1 : decode cX6_thickness 1 = .ok (.istore_n 3, 1) := by decide +kernel
theorem dX6_thickness_2 : decode cX6_thickness 2 = .ok (.iload_n 1, 1) := by decide +kernel
theorem dX6_thickness_3 : decode cX6_thickness 3 = .ok (.iconst 0, 1) := by decide +kernel
theorem dX6_thickness_4 : decode cX6_thickness 4 = .ok (.invokestatic 82, 3) := by decide +kernel
theorem dX6_thickness_7 : decode cX6_thickness 7 = .ok (.istore 4, 2) := by decide +kernel
theorem dX6_thickness_9 : decode cX6_thickness 9 = .ok (.iload 4, 2) := by decide +kernel
theorem dX6_thickness_11 : decode cX6_thickness 11 = .ok (.iload_n 2, 1) := by decide +kernel
theorem dX6_thickness_12 : decode cX6_thickness 12 = .ok (.if_icmp .gt 28, 3) := by decide +kernel
theorem dX6_thickness_15 : decode cX6_thickness 15 = .ok (.iload 4, 2) := by decide +kernel
theorem dX6_thickness_17 : decode cX6_thickness 17 = .ok (.aload_n 0, 1) := by decide +kernel
theorem dX6_thickness_18 : decode cX6_thickness 18 = .ok (.getfield 54, 3) := by decide +kernel
theorem dX6_thickness_21 : decode cX6_thickness 21 = .ok (.if_icmp .ge 19, 3) := by decide +kernel
theorem dX6_thickness_24 : decode cX6_thickness 24 = .ok (.iload_n 3, 1) := by decide +kernel
theorem dX6_thickness_25 : decode cX6_thickness 25 = .ok (.aload_n 0, 1) := by decide +kernel
theorem dX6_thickness_26 : decode cX6_thickness 26 = .ok (.getfield 15, 3) := by decide +kernel
theorem dX6_thickness_29 : decode cX6_thickness 29 = .ok (.iload 4, 2) := by decide +kernel
theorem dX6_thickness_31 : decode cX6_thickness 31 = .ok (.iaload, 1) := by decide +kernel
theorem dX6_thickness_32 : decode cX6_thickness 32 = .ok (.iadd, 1) := by decide +kernel
theorem dX6_thickness_33 : decode cX6_thickness 33 = .ok (.istore_n 3, 1) := by decide +kernel
theorem dX6_thickness_34 : decode cX6_thickness 34 = .ok (.iinc 4 1, 3) := by decide +kernel
theorem dX6_thickness_37 : decode cX6_thickness 37 = .ok (.goto (-28), 3) := by decide +kernel
theorem dX6_thickness_40 : decode cX6_thickness 40 = .ok (.iload_n 3, 1) := by decide +kernel
theorem dX6_thickness_41 : decode cX6_thickness 41 = .ok (.ireturn, 1) := by decide +kernel
theorem dX6_tallest_0 : decode cX6_tallest 0 = .ok (.iconst 0, 1) := by decide +kernel
theorem dX6_tallest_1 : decode cX6_tallest 1 = .ok (.istore_n 3, 1) := by decide +kernel
theorem dX6_tallest_2 : decode cX6_tallest 2 = .ok (.iload_n 1, 1) := by decide +kernel
theorem dX6_tallest_3 : decode cX6_tallest 3 = .ok (.iconst 0, 1) := by decide +kernel
theorem dX6_tallest_4 : decode cX6_tallest 4 = .ok (.invokestatic 82, 3) := by decide +kernel
theorem dX6_tallest_7 : decode cX6_tallest 7 = .ok (.istore 4, 2) := by decide +kernel
theorem dX6_tallest_9 : decode cX6_tallest 9 = .ok (.iload 4, 2) := by decide +kernel
theorem dX6_tallest_11 : decode cX6_tallest 11 = .ok (.iload_n 2, 1) := by decide +kernel
theorem dX6_tallest_12 : decode cX6_tallest 12 = .ok (.if_icmp .gt 30, 3) := by decide +kernel
theorem dX6_tallest_15 : decode cX6_tallest 15 = .ok (.iload 4, 2) := by decide +kernel
theorem dX6_tallest_17 : decode cX6_tallest 17 = .ok (.aload_n 0, 1) := by decide +kernel
theorem dX6_tallest_18 : decode cX6_tallest 18 = .ok (.getfield 54, 3) := by decide +kernel
theorem dX6_tallest_21 : decode cX6_tallest 21 = .ok (.if_icmp .ge 21, 3) := by decide +kernel
theorem dX6_tallest_24 : decode cX6_tallest 24 = .ok (.iload_n 3, 1) := by decide +kernel
theorem dX6_tallest_25 : decode cX6_tallest 25 = .ok (.aload_n 0, 1) := by decide +kernel
theorem dX6_tallest_26 : decode cX6_tallest 26 = .ok (.getfield 9, 3) := by decide +kernel
theorem dX6_tallest_29 : decode cX6_tallest 29 = .ok (.iload 4, 2) := by decide +kernel
theorem dX6_tallest_31 : decode cX6_tallest 31 = .ok (.iaload, 1) := by decide +kernel
theorem dX6_tallest_32 : decode cX6_tallest 32 = .ok (.invokestatic 82, 3) := by decide +kernel
theorem dX6_tallest_35 : decode cX6_tallest 35 = .ok (.istore_n 3, 1) := by decide +kernel
theorem dX6_tallest_36 : decode cX6_tallest 36 = .ok (.iinc 4 1, 3) := by decide +kernel
theorem dX6_tallest_39 : decode cX6_tallest 39 = .ok (.goto (-30), 3) := by decide +kernel
theorem dX6_tallest_42 : decode cX6_tallest 42 = .ok (.iload_n 3, 1) := by decide +kernel
theorem dX6_tallest_43 : decode cX6_tallest 43 = .ok (.ireturn, 1) := by decide +kernel
theorem dX6_tiedBooks_0 : decode cX6_tiedBooks 0 = .ok (.iconst 0, 1) := by decide +kernel
theorem dX6_tiedBooks_1 : decode cX6_tiedBooks 1 = .ok (.istore_n 1, 1) := by decide +kernel
theorem dX6_tiedBooks_2 : decode cX6_tiedBooks 2 = .ok (.iconst 0, 1) := by decide +kernel
theorem dX6_tiedBooks_3 : decode cX6_tiedBooks 3 = .ok (.istore_n 2, 1) := by decide +kernel
theorem dX6_tiedBooks_4 : decode cX6_tiedBooks 4 = .ok (.iload_n 2, 1) := by decide +kernel
theorem dX6_tiedBooks_5 : decode cX6_tiedBooks 5 = .ok (.aload_n 0, 1) := by decide +kernel
theorem dX6_tiedBooks_6 : decode cX6_tiedBooks 6 = .ok (.getfield 54, 3) := by decide +kernel
theorem dX6_tiedBooks_9 : decode cX6_tiedBooks 9 = .ok (.if_icmp .ge 26, 3) := by decide +kernel
theorem dX6_tiedBooks_12 : decode cX6_tiedBooks 12 = .ok (.iload_n 1, 1) := by decide +kernel
theorem dX6_tiedBooks_13 : decode cX6_tiedBooks 13 = .ok (.aload_n 0, 1) := by decide +kernel
theorem dX6_tiedBooks_14 : decode cX6_tiedBooks 14 = .ok (.getfield 21, 3) := by decide +kernel
theorem dX6_tiedBooks_17 : decode cX6_tiedBooks 17 = .ok (.iload_n 2, 1) := by decide +kernel
theorem dX6_tiedBooks_18 : decode cX6_tiedBooks 18 = .ok (.baload, 1) := by decide +kernel
theorem dX6_tiedBooks_19 : decode cX6_tiedBooks 19 = .ok (.ifCond .eq 7, 3) := by decide +kernel
theorem dX6_tiedBooks_22 : decode cX6_tiedBooks 22 = .ok (.iconst 1, 1) := by decide +kernel
theorem dX6_tiedBooks_23 : decode cX6_tiedBooks 23 = .ok (.goto 4, 3) := by decide +kernel
theorem dX6_tiedBooks_26 : decode cX6_tiedBooks 26 = .ok (.iconst 0, 1) := by decide +kernel
theorem dX6_tiedBooks_27 : decode cX6_tiedBooks 27 = .ok (.iadd, 1) := by decide +kernel
theorem dX6_tiedBooks_28 : decode cX6_tiedBooks 28 = .ok (.istore_n 1, 1) := by decide +kernel
theorem dX6_tiedBooks_29 : decode cX6_tiedBooks 29 = .ok (.iinc 2 1, 3) := by decide +kernel
theorem dX6_tiedBooks_32 : decode cX6_tiedBooks 32 = .ok (.goto (-28), 3) := by decide +kernel
theorem dX6_tiedBooks_35 : decode cX6_tiedBooks 35 = .ok (.iload_n 1, 1) := by decide +kernel
theorem dX6_tiedBooks_36 : decode cX6_tiedBooks 36 = .ok (.ireturn, 1) := by decide +kernel
theorem dX6_hasHeight_0 : decode cX6_hasHeight 0 = .ok (.iconst 0, 1) := by decide +kernel
theorem dX6_hasHeight_1 : decode cX6_hasHeight 1 = .ok (.istore_n 2, 1) := by decide +kernel
theorem dX6_hasHeight_2 : decode cX6_hasHeight 2 = .ok (.iload_n 2, 1) := by decide +kernel
theorem dX6_hasHeight_3 : decode cX6_hasHeight 3 = .ok (.aload_n 0, 1) := by decide +kernel
theorem dX6_hasHeight_4 : decode cX6_hasHeight 4 = .ok (.getfield 54, 3) := by decide +kernel
theorem dX6_hasHeight_7 : decode cX6_hasHeight 7 = .ok (.if_icmp .ge 21, 3) := by decide +kernel
theorem dX6_hasHeight_10 : decode cX6_hasHeight 10 = .ok (.aload_n 0, 1) := by decide +kernel
theorem dX6_hasHeight_11 : decode cX6_hasHeight 11 = .ok (.getfield 9, 3) := by decide +kernel
theorem dX6_hasHeight_14 : decode cX6_hasHeight 14 = .ok (.iload_n 2, 1) := by decide +kernel
theorem dX6_hasHeight_15 : decode cX6_hasHeight 15 = .ok (.iaload, 1) := by decide +kernel
theorem dX6_hasHeight_16 : decode cX6_hasHeight 16 = .ok (.iload_n 1, 1) := by decide +kernel
theorem dX6_hasHeight_17 : decode cX6_hasHeight 17 = .ok (.if_icmp .ne 5, 3) := by decide +kernel
theorem dX6_hasHeight_20 : decode cX6_hasHeight 20 = .ok (.iconst 1, 1) := by decide +kernel
theorem dX6_hasHeight_21 : decode cX6_hasHeight 21 = .ok (.ireturn, 1) := by decide +kernel
theorem dX6_hasHeight_22 : decode cX6_hasHeight 22 = .ok (.iinc 2 1, 3) := by decide +kernel
theorem dX6_hasHeight_25 : decode cX6_hasHeight 25 = .ok (.goto (-23), 3) := by decide +kernel
theorem dX6_hasHeight_28 : decode cX6_hasHeight 28 = .ok (.iconst 0, 1) := by decide +kernel
theorem dX6_hasHeight_29 : decode cX6_hasHeight 29 = .ok (.ireturn, 1) := by decide +kernel
theorem dX6_unlikeHeights_0 : decode cX6_unlikeHeights 0 = .ok (.iconst 0, 1) := by decide +kernel
theorem dX6_unlikeHeights_1 : decode cX6_unlikeHeights 1 = .ok (.istore_n 2, 1) := by decide +kernel
theorem dX6_unlikeHeights_2 : decode cX6_unlikeHeights 2 = .ok (.iconst 1, 1) := by decide +kernel
theorem dX6_unlikeHeights_3 : decode cX6_unlikeHeights 3 = .ok (.istore_n 3, 1) := by decide +kernel
theorem dX6_unlikeHeights_4 : decode cX6_unlikeHeights 4 = .ok (.iload_n 3, 1) := by decide +kernel
theorem dX6_unlikeHeights_5 : decode cX6_unlikeHeights 5 = .ok (.bipush 99, 2) := by decide +kernel
theorem dX6_unlikeHeights_7 : decode cX6_unlikeHeights 7 = .ok (.if_icmp .gt 30, 3) := by decide +kernel
theorem dX6_unlikeHeights_10 : decode cX6_unlikeHeights 10 = .ok (.iload_n 2, 1) := by decide +kernel
theorem dX6_unlikeHeights_11 : decode cX6_unlikeHeights 11 = .ok (.aload_n 1, 1) := by decide +kernel
theorem dX6_unlikeHeights_12 : decode cX6_unlikeHeights 12 = .ok (.arraylength, 1) := by decide +kernel
theorem dX6_unlikeHeights_13 : decode cX6_unlikeHeights 13 = .ok (.if_icmp .ge 24, 3) := by decide +kernel
theorem dX6_unlikeHeights_16 : decode cX6_unlikeHeights 16 = .ok (.aload_n 0, 1) := by decide +kernel
theorem dX6_unlikeHeights_17 : decode cX6_unlikeHeights 17 = .ok (.iload_n 3, 1) := by decide +kernel
theorem dX6_unlikeHeights_18 : decode cX6_unlikeHeights 18 = .ok (.invokevirtual 88, 3) := by decide +kernel
theorem dX6_unlikeHeights_21 : decode cX6_unlikeHeights 21 = .ok (.ifCond .eq 10, 3) := by decide +kernel
theorem dX6_unlikeHeights_24 : decode cX6_unlikeHeights 24 = .ok (.aload_n 1, 1) := by decide +kernel
theorem dX6_unlikeHeights_25 : decode cX6_unlikeHeights 25 = .ok (.iload_n 2, 1) := by decide +kernel
theorem dX6_unlikeHeights_26 : decode cX6_unlikeHeights 26 = .ok (.iload_n 3, 1) := by decide +kernel
theorem dX6_unlikeHeights_27 : decode cX6_unlikeHeights 27 = .ok (.iastore, 1) := by decide +kernel
theorem dX6_unlikeHeights_28 : decode cX6_unlikeHeights 28 = .ok (.iinc 2 1, 3) := by decide +kernel
theorem dX6_unlikeHeights_31 : decode cX6_unlikeHeights 31 = .ok (.iinc 3 1, 3) := by decide +kernel
theorem dX6_unlikeHeights_34 : decode cX6_unlikeHeights 34 = .ok (.goto (-30), 3) := by decide +kernel
theorem dX6_unlikeHeights_37 : decode cX6_unlikeHeights 37 = .ok (.iload_n 2, 1) := by decide +kernel
theorem dX6_unlikeHeights_38 : decode cX6_unlikeHeights 38 = .ok (.ireturn, 1) := by decide +kernel
theorem dX6_walks_0 : decode cX6_walks 0 = .ok (.aload_n 0, 1) := by decide +kernel
theorem dX6_walks_1 : decode cX6_walks 1 = .ok (.iconst 1, 1) := by decide +kernel
theorem dX6_walks_2 : decode cX6_walks 2 = .ok (.invokevirtual 92, 3) := by decide +kernel
theorem dX6_walks_5 : decode cX6_walks 5 = .ok (.astore_n 2, 1) := by decide +kernel
theorem dX6_walks_6 : decode cX6_walks 6 = .ok (.iconst 0, 1) := by decide +kernel
theorem dX6_walks_7 : decode cX6_walks 7 = .ok (.istore_n 3, 1) := by decide +kernel
theorem dX6_walks_8 : decode cX6_walks 8 = .ok (.iconst 0, 1) := by decide +kernel
theorem dX6_walks_9 : decode cX6_walks 9 = .ok (.istore 4, 2) := by decide +kernel
theorem dX6_walks_11 : decode cX6_walks 11 = .ok (.iload 4, 2) := by decide +kernel
theorem dX6_walks_13 : decode cX6_walks 13 = .ok (.aload_n 0, 1) := by decide +kernel
theorem dX6_walks_14 : decode cX6_walks 14 = .ok (.getfield 54, 3) := by decide +kernel
theorem dX6_walks_17 : decode cX6_walks 17 = .ok (.if_icmp .ge 57, 3) := by decide +kernel
theorem dX6_walks_20 : decode cX6_walks 20 = .ok (.aload_n 0, 1) := by decide +kernel
theorem dX6_walks_21 : decode cX6_walks 21 = .ok (.getfield 9, 3) := by decide +kernel
theorem dX6_walks_24 : decode cX6_walks 24 = .ok (.iload 4, 2) := by decide +kernel
theorem dX6_walks_26 : decode cX6_walks 26 = .ok (.iaload, 1) := by decide +kernel
theorem dX6_walks_27 : decode cX6_walks 27 = .ok (.iload_n 1, 1) := by decide +kernel
theorem dX6_walks_28 : decode cX6_walks 28 = .ok (.if_icmp .lt 40, 3) := by decide +kernel
theorem dX6_walks_31 : decode cX6_walks 31 = .ok (.iload_n 3, 1) := by decide +kernel
theorem dX6_walks_32 : decode cX6_walks 32 = .ok (.aload_n 2, 1) := by decide +kernel
theorem dX6_walks_33 : decode cX6_walks 33 = .ok (.ifnonnull 7, 3) := by decide +kernel
theorem dX6_walks_36 : decode cX6_walks 36 = .ok (.iconst 5, 1) := by decide +kernel
theorem dX6_walks_37 : decode cX6_walks 37 = .ok (.goto 29, 3) := by decide +kernel
theorem dX6_walks_40 : decode cX6_walks 40 = .ok (.aload_n 2, 1) := by decide +kernel
theorem dX6_walks_41 : decode cX6_walks 41 = .ok (.aload_n 0, 1) := by decide +kernel
theorem dX6_walks_42 : decode cX6_walks 42 = .ok (.getfield 9, 3) := by decide +kernel
theorem dX6_walks_45 : decode cX6_walks 45 = .ok (.iload 4, 2) := by decide +kernel
theorem dX6_walks_47 : decode cX6_walks 47 = .ok (.iaload, 1) := by decide +kernel
theorem dX6_walks_48 : decode cX6_walks 48 = .ok (.aload_n 0, 1) := by decide +kernel
theorem dX6_walks_49 : decode cX6_walks 49 = .ok (.getfield 18, 3) := by decide +kernel
theorem dX6_walks_52 : decode cX6_walks 52 = .ok (.iload 4, 2) := by decide +kernel
theorem dX6_walks_54 : decode cX6_walks 54 = .ok (.iaload, 1) := by decide +kernel
theorem dX6_walks_55 : decode cX6_walks 55 = .ok (.iconst 0, 1) := by decide +kernel
theorem dX6_walks_56 : decode cX6_walks 56 = .ok (.invokevirtual 96, 3) := by decide +kernel
theorem dX6_walks_59 : decode cX6_walks 59 = .ok (.iconst 0, 1) := by decide +kernel
theorem dX6_walks_60 : decode cX6_walks 60 = .ok (.sipush 999, 3) := by decide +kernel
theorem dX6_walks_63 : decode cX6_walks 63 = .ok (.invokestatic 100, 3) := by decide +kernel
theorem dX6_walks_66 : decode cX6_walks 66 = .ok (.iadd, 1) := by decide +kernel
theorem dX6_walks_67 : decode cX6_walks 67 = .ok (.istore_n 3, 1) := by decide +kernel
theorem dX6_walks_68 : decode cX6_walks 68 = .ok (.iinc 4 1, 3) := by decide +kernel
theorem dX6_walks_71 : decode cX6_walks 71 = .ok (.goto (-60), 3) := by decide +kernel
theorem dX6_walks_74 : decode cX6_walks 74 = .ok (.iload_n 3, 1) := by decide +kernel
theorem dX6_walks_75 : decode cX6_walks 75 = .ok (.ireturn, 1) := by decide +kernel
theorem dX6_hasBoard_0 : decode cX6_hasBoard 0 = .ok (.iload_n 1, 1) := by decide +kernel
theorem dX6_hasBoard_1 : decode cX6_hasBoard 1 = .ok (.iconst 0, 1) := by decide +kernel
theorem dX6_hasBoard_2 : decode cX6_hasBoard 2 = .ok (.aload_n 0, 1) := by decide +kernel
theorem dX6_hasBoard_3 : decode cX6_hasBoard 3 = .ok (.getfield 57, 3) := by decide +kernel
theorem dX6_hasBoard_6 : decode cX6_hasBoard 6 = .ok (.iconst 1, 1) := by decide +kernel
theorem dX6_hasBoard_7 : decode cX6_hasBoard 7 = .ok (.isub, 1) := by decide +kernel
theorem dX6_hasBoard_8 : decode cX6_hasBoard 8 = .ok (.invokestatic 76, 3) := by decide +kernel
theorem dX6_hasBoard_11 : decode cX6_hasBoard 11 = .ok (.ireturn, 1) := by decide +kernel
theorem dX6_addBoard_0 : decode cX6_addBoard 0 = .ok (.aload_n 0, 1) := by decide +kernel
theorem dX6_addBoard_1 : decode cX6_addBoard 1 = .ok (.getfield 57, 3) := by decide +kernel
theorem dX6_addBoard_4 : decode cX6_addBoard 4 = .ok (.bipush 12, 2) := by decide +kernel
theorem dX6_addBoard_6 : decode cX6_addBoard 6 = .ok (.if_icmp .lt 6, 3) := by decide +kernel
theorem dX6_addBoard_9 : decode cX6_addBoard 9 = .ok (.ldc 80, 2) := by decide +kernel
theorem dX6_addBoard_11 : decode cX6_addBoard 11 = .ok (.ireturn, 1) := by decide +kernel
theorem dX6_addBoard_12 : decode cX6_addBoard 12 = .ok (.aload_n 0, 1) := by decide +kernel
theorem dX6_addBoard_13 : decode cX6_addBoard 13 = .ok (.getfield 40, 3) := by decide +kernel
theorem dX6_addBoard_16 : decode cX6_addBoard 16 = .ok (.aload_n 0, 1) := by decide +kernel
theorem dX6_addBoard_17 : decode cX6_addBoard 17 = .ok (.getfield 57, 3) := by decide +kernel
theorem dX6_addBoard_20 : decode cX6_addBoard 20 = .ok (.aaload, 1) := by decide +kernel
theorem dX6_addBoard_21 : decode cX6_addBoard 21 = .ok (.astore 5, 2) := by decide +kernel
theorem dX6_addBoard_23 : decode cX6_addBoard 23 = .ok (.aload 5, 2) := by decide +kernel
theorem dX6_addBoard_25 : decode cX6_addBoard 25 = .ok (.iload_n 1, 1) := by decide +kernel
theorem dX6_addBoard_26 : decode cX6_addBoard 26 = .ok (.putfield 103, 3) := by decide +kernel
theorem dX6_addBoard_29 : decode cX6_addBoard 29 = .ok (.aload 5, 2) := by decide +kernel
theorem dX6_addBoard_31 : decode cX6_addBoard 31 = .ok (.iload_n 2, 1) := by decide +kernel
theorem dX6_addBoard_32 : decode cX6_addBoard 32 = .ok (.putfield 106, 3) := by decide +kernel
theorem dX6_addBoard_35 : decode cX6_addBoard 35 = .ok (.aload 5, 2) := by decide +kernel
theorem dX6_addBoard_37 : decode cX6_addBoard 37 = .ok (.iload_n 3, 1) := by decide +kernel
theorem dX6_addBoard_38 : decode cX6_addBoard 38 = .ok (.putfield 109, 3) := by decide +kernel
theorem dX6_addBoard_41 : decode cX6_addBoard 41 = .ok (.aload 5, 2) := by decide +kernel
theorem dX6_addBoard_43 : decode cX6_addBoard 43 = .ok (.iload 4, 2) := by decide +kernel
theorem dX6_addBoard_45 : decode cX6_addBoard 45 = .ok (.putfield 112, 3) := by decide +kernel
theorem dX6_addBoard_48 : decode cX6_addBoard 48 = .ok (.aload_n 0, 1) := by decide +kernel
theorem dX6_addBoard_49 : decode cX6_addBoard 49 = .ok (.dup, 1) := by decide +kernel
theorem dX6_addBoard_50 : decode cX6_addBoard 50 = .ok (.getfield 57, 3) := by decide +kernel
theorem dX6_addBoard_53 : decode cX6_addBoard 53 = .ok (.iconst 1, 1) := by decide +kernel
theorem dX6_addBoard_54 : decode cX6_addBoard 54 = .ok (.iadd, 1) := by decide +kernel
theorem dX6_addBoard_55 : decode cX6_addBoard 55 = .ok (.putfield 57, 3) := by decide +kernel
theorem dX6_addBoard_58 : decode cX6_addBoard 58 = .ok (.aload_n 0, 1) := by decide +kernel
theorem dX6_addBoard_59 : decode cX6_addBoard 59 = .ok (.getfield 57, 3) := by decide +kernel
theorem dX6_addBoard_62 : decode cX6_addBoard 62 = .ok (.iconst 1, 1) := by decide +kernel
theorem dX6_addBoard_63 : decode cX6_addBoard 63 = .ok (.isub, 1) := by decide +kernel
theorem dX6_addBoard_64 : decode cX6_addBoard 64 = .ok (.ireturn, 1) := by decide +kernel
theorem dX6_dropBoard_0 : decode cX6_dropBoard 0 = .ok (.iload_n 1, 1) := by decide +kernel
theorem dX6_dropBoard_1 : decode cX6_dropBoard 1 = .ok (.iconst 0, 1) := by decide +kernel
theorem dX6_dropBoard_2 : decode cX6_dropBoard 2 = .ok (.invokestatic 82, 3) := by decide +kernel
theorem dX6_dropBoard_5 : decode cX6_dropBoard 5 = .ok (.istore_n 2, 1) := by decide +kernel
theorem dX6_dropBoard_6 : decode cX6_dropBoard 6 = .ok (.iload_n 2, 1) := by decide +kernel
theorem dX6_dropBoard_7 : decode cX6_dropBoard 7 = .ok (.iconst 1, 1) := by decide +kernel
theorem dX6_dropBoard_8 : decode cX6_dropBoard 8 = .ok (.iadd, 1) := by decide +kernel
theorem dX6_dropBoard_9 : decode cX6_dropBoard 9 = .ok (.aload_n 0, 1) := by decide +kernel
theorem dX6_dropBoard_10 : decode cX6_dropBoard 10 = .ok (.getfield 57, 3) := by decide +kernel
theorem dX6_dropBoard_13 : decode cX6_dropBoard 13 = .ok (.if_icmp .ge 26, 3) := by decide +kernel
theorem dX6_dropBoard_16 : decode cX6_dropBoard 16 = .ok (.aload_n 0, 1) := by decide +kernel
theorem dX6_dropBoard_17 : decode cX6_dropBoard 17 = .ok (.getfield 40, 3) := by decide +kernel
theorem dX6_dropBoard_20 : decode cX6_dropBoard 20 = .ok (.iload_n 2, 1) := by decide +kernel
theorem dX6_dropBoard_21 : decode cX6_dropBoard 21 = .ok (.aaload, 1) := by decide +kernel
theorem dX6_dropBoard_22 : decode cX6_dropBoard 22 = .ok (.aload_n 0, 1) := by decide +kernel
theorem dX6_dropBoard_23 : decode cX6_dropBoard 23 = .ok (.getfield 40, 3) := by decide +kernel
theorem dX6_dropBoard_26 : decode cX6_dropBoard 26 = .ok (.iload_n 2, 1) := by decide +kernel
theorem dX6_dropBoard_27 : decode cX6_dropBoard 27 = .ok (.iconst 1, 1) := by decide +kernel
theorem dX6_dropBoard_28 : decode cX6_dropBoard 28 = .ok (.iadd, 1) := by decide +kernel
theorem dX6_dropBoard_29 : decode cX6_dropBoard 29 = .ok (.aaload, 1) := by decide +kernel
theorem dX6_dropBoard_30 : decode cX6_dropBoard 30 = .ok (.invokevirtual 60, 3) := by decide +kernel
theorem dX6_dropBoard_33 : decode cX6_dropBoard 33 = .ok (.iinc 2 1, 3) := by decide +kernel
theorem dX6_dropBoard_36 : decode cX6_dropBoard 36 = .ok (.goto (-30), 3) := by decide +kernel
theorem dX6_dropBoard_39 : decode cX6_dropBoard 39 = .ok (.aload_n 0, 1) := by decide +kernel
theorem dX6_dropBoard_40 : decode cX6_dropBoard 40 = .ok (.dup, 1) := by decide +kernel
theorem dX6_dropBoard_41 : decode cX6_dropBoard 41 = .ok (.getfield 57, 3) := by decide +kernel
theorem dX6_dropBoard_44 : decode cX6_dropBoard 44 = .ok (.iconst 1, 1) := by decide +kernel
theorem dX6_dropBoard_45 : decode cX6_dropBoard 45 = .ok (.isub, 1) := by decide +kernel
theorem dX6_dropBoard_46 : decode cX6_dropBoard 46 = .ok (.putfield 57, 3) := by decide +kernel
theorem dX6_dropBoard_49 : decode cX6_dropBoard 49 = .ok (.aload_n 0, 1) := by decide +kernel
theorem dX6_dropBoard_50 : decode cX6_dropBoard 50 = .ok (.getfield 57, 3) := by decide +kernel
theorem dX6_dropBoard_53 : decode cX6_dropBoard 53 = .ok (.ireturn, 1) := by decide +kernel
theorem dX6_firstBoardNotGood_0 : decode cX6_firstBoardNotGood 0 = .ok (.iconst 0, 1) := by decide +kernel
theorem dX6_firstBoardNotGood_1 : decode cX6_firstBoardNotGood 1 = .ok (.istore_n 1, 1) := by decide +kernel
theorem dX6_firstBoardNotGood_2 : decode cX6_firstBoardNotGood 2 = .ok (.iload_n 1, 1) := by decide +kernel
theorem dX6_firstBoardNotGood_3 : decode cX6_firstBoardNotGood 3 = .ok (.aload_n 0, 1) := by decide +kernel
theorem dX6_firstBoardNotGood_4 : decode cX6_firstBoardNotGood 4 = .ok (.getfield 57, 3) := by decide +kernel
theorem dX6_firstBoardNotGood_7 : decode cX6_firstBoardNotGood 7 = .ok (.if_icmp .ge 24, 3) := by decide +kernel
theorem dX6_firstBoardNotGood_10 : decode cX6_firstBoardNotGood 10 = .ok (.aload_n 0, 1) := by decide +kernel
theorem dX6_firstBoardNotGood_11 : decode cX6_firstBoardNotGood 11 = .ok (.getfield 40, 3) := by decide +kernel
theorem dX6_firstBoardNotGood_14 : decode cX6_firstBoardNotGood 14 = .ok (.iload_n 1, 1) := by decide +kernel
theorem dX6_firstBoardNotGood_15 : decode cX6_firstBoardNotGood 15 = .ok (.aaload, 1) := by decide +kernel
theorem dX6_firstBoardNotGood_16 : decode cX6_firstBoardNotGood 16 = .ok (.aload_n 0, 1) := by decide +kernel
theorem dX6_firstBoardNotGood_17 : decode cX6_firstBoardNotGood 17 = .ok (.invokevirtual 115, 3) := by decide +kernel
theorem dX6_firstBoardNotGood_20 : decode cX6_firstBoardNotGood 20 = .ok (.ifCond .ne 5, 3) := by decide +kernel
theorem dX6_firstBoardNotGood_23 : decode cX6_firstBoardNotGood 23 = .ok (.iload_n 1, 1) := by decide +kernel
theorem dX6_firstBoardNotGood_24 : decode cX6_firstBoardNotGood 24 = .ok (.ireturn, 1) := by decide +kernel
theorem dX6_firstBoardNotGood_25 : decode cX6_firstBoardNotGood 25 = .ok (.iinc 1 1, 3) := by decide +kernel
theorem dX6_firstBoardNotGood_28 : decode cX6_firstBoardNotGood 28 = .ok (.goto (-26), 3) := by decide +kernel
theorem dX6_firstBoardNotGood_31 : decode cX6_firstBoardNotGood 31 = .ok (.ldc 119, 2) := by decide +kernel
theorem dX6_firstBoardNotGood_33 : decode cX6_firstBoardNotGood 33 = .ok (.ireturn, 1) := by decide +kernel
theorem dX6_firstBookAmiss_0 : decode cX6_firstBookAmiss 0 = .ok (.iconst 0, 1) := by decide +kernel
theorem dX6_firstBookAmiss_1 : decode cX6_firstBookAmiss 1 = .ok (.istore_n 1, 1) := by decide +kernel
theorem dX6_firstBookAmiss_2 : decode cX6_firstBookAmiss 2 = .ok (.iload_n 1, 1) := by decide +kernel
theorem dX6_firstBookAmiss_3 : decode cX6_firstBookAmiss 3 = .ok (.aload_n 0, 1) := by decide +kernel
theorem dX6_firstBookAmiss_4 : decode cX6_firstBookAmiss 4 = .ok (.getfield 54, 3) := by decide +kernel
theorem dX6_firstBookAmiss_7 : decode cX6_firstBookAmiss 7 = .ok (.if_icmp .ge 20, 3) := by decide +kernel
theorem dX6_firstBookAmiss_10 : decode cX6_firstBookAmiss 10 = .ok (.aload_n 0, 1) := by decide +kernel
theorem dX6_firstBookAmiss_11 : decode cX6_firstBookAmiss 11 = .ok (.iload_n 1, 1) := by decide +kernel
theorem dX6_firstBookAmiss_12 : decode cX6_firstBookAmiss 12 = .ok (.invokevirtual 120, 3) := by decide +kernel
theorem dX6_firstBookAmiss_15 : decode cX6_firstBookAmiss 15 = .ok (.iconst 1, 1) := by decide +kernel
theorem dX6_firstBookAmiss_16 : decode cX6_firstBookAmiss 16 = .ok (.if_icmp .eq 5, 3) := by decide +kernel
theorem dX6_firstBookAmiss_19 : decode cX6_firstBookAmiss 19 = .ok (.iload_n 1, 1) := by decide +kernel
theorem dX6_firstBookAmiss_20 : decode cX6_firstBookAmiss 20 = .ok (.ireturn, 1) := by decide +kernel
theorem dX6_firstBookAmiss_21 : decode cX6_firstBookAmiss 21 = .ok (.iinc 1 1, 3) := by decide +kernel
theorem dX6_firstBookAmiss_24 : decode cX6_firstBookAmiss 24 = .ok (.goto (-22), 3) := by decide +kernel
theorem dX6_firstBookAmiss_27 : decode cX6_firstBookAmiss 27 = .ok (.ldc 119, 2) := by decide +kernel
theorem dX6_firstBookAmiss_29 : decode cX6_firstBookAmiss 29 = .ok (.ireturn, 1) := by decide +kernel
theorem dX6_boardsWith_0 : decode cX6_boardsWith 0 = .ok (.iconst 0, 1) := by decide +kernel
theorem dX6_boardsWith_1 : decode cX6_boardsWith 1 = .ok (.istore_n 2, 1) := by decide +kernel
theorem dX6_boardsWith_2 : decode cX6_boardsWith 2 = .ok (.iconst 0, 1) := by decide +kernel
theorem dX6_boardsWith_3 : decode cX6_boardsWith 3 = .ok (.istore_n 3, 1) := by decide +kernel
theorem dX6_boardsWith_4 : decode cX6_boardsWith 4 = .ok (.iload_n 3, 1) := by decide +kernel
theorem dX6_boardsWith_5 : decode cX6_boardsWith 5 = .ok (.aload_n 0, 1) := by decide +kernel
theorem dX6_boardsWith_6 : decode cX6_boardsWith 6 = .ok (.getfield 57, 3) := by decide +kernel
theorem dX6_boardsWith_9 : decode cX6_boardsWith 9 = .ok (.if_icmp .ge 42, 3) := by decide +kernel
theorem dX6_boardsWith_12 : decode cX6_boardsWith 12 = .ok (.iload_n 2, 1) := by decide +kernel
theorem dX6_boardsWith_13 : decode cX6_boardsWith 13 = .ok (.iload_n 1, 1) := by decide +kernel
theorem dX6_boardsWith_14 : decode cX6_boardsWith 14 = .ok (.aload_n 0, 1) := by decide +kernel
theorem dX6_boardsWith_15 : decode cX6_boardsWith 15 = .ok (.getfield 40, 3) := by decide +kernel
theorem dX6_boardsWith_18 : decode cX6_boardsWith 18 = .ok (.iload_n 3, 1) := by decide +kernel
theorem dX6_boardsWith_19 : decode cX6_boardsWith 19 = .ok (.aaload, 1) := by decide +kernel
theorem dX6_boardsWith_20 : decode cX6_boardsWith 20 = .ok (.getfield 106, 3) := by decide +kernel
theorem dX6_boardsWith_23 : decode cX6_boardsWith 23 = .ok (.aload_n 0, 1) := by decide +kernel
theorem dX6_boardsWith_24 : decode cX6_boardsWith 24 = .ok (.getfield 40, 3) := by decide +kernel
theorem dX6_boardsWith_27 : decode cX6_boardsWith 27 = .ok (.iload_n 3, 1) := by decide +kernel
theorem dX6_boardsWith_28 : decode cX6_boardsWith 28 = .ok (.aaload, 1) := by decide +kernel
theorem dX6_boardsWith_29 : decode cX6_boardsWith 29 = .ok (.getfield 109, 3) := by decide +kernel
theorem dX6_boardsWith_32 : decode cX6_boardsWith 32 = .ok (.invokestatic 76, 3) := by decide +kernel
theorem dX6_boardsWith_35 : decode cX6_boardsWith 35 = .ok (.ifCond .eq 7, 3) := by decide +kernel
theorem dX6_boardsWith_38 : decode cX6_boardsWith 38 = .ok (.iconst 1, 1) := by decide +kernel
theorem dX6_boardsWith_39 : decode cX6_boardsWith 39 = .ok (.goto 4, 3) := by decide +kernel
theorem dX6_boardsWith_42 : decode cX6_boardsWith 42 = .ok (.iconst 0, 1) := by decide +kernel
theorem dX6_boardsWith_43 : decode cX6_boardsWith 43 = .ok (.iadd, 1) := by decide +kernel
theorem dX6_boardsWith_44 : decode cX6_boardsWith 44 = .ok (.istore_n 2, 1) := by decide +kernel
theorem dX6_boardsWith_45 : decode cX6_boardsWith 45 = .ok (.iinc 3 1, 3) := by decide +kernel
theorem dX6_boardsWith_48 : decode cX6_boardsWith 48 = .ok (.goto (-44), 3) := by decide +kernel
theorem dX6_boardsWith_51 : decode cX6_boardsWith 51 = .ok (.iload_n 2, 1) := by decide +kernel
theorem dX6_boardsWith_52 : decode cX6_boardsWith 52 = .ok (.ireturn, 1) := by decide +kernel
theorem dX6_heightOfBoards_0 : decode cX6_heightOfBoards 0 = .ok (.iconst 0, 1) := by decide +kernel
theorem dX6_heightOfBoards_1 : decode cX6_heightOfBoards 1 = .ok (.istore_n 1, 1) := by decide +kernel
theorem dX6_heightOfBoards_2 : decode cX6_heightOfBoards 2 = .ok (.iconst 0, 1) := by decide +kernel
theorem dX6_heightOfBoards_3 : decode cX6_heightOfBoards 3 = .ok (.istore_n 2, 1) := by decide +kernel
theorem dX6_heightOfBoards_4 : decode cX6_heightOfBoards 4 = .ok (.iload_n 2, 1) := by decide +kernel
theorem dX6_heightOfBoards_5 : decode cX6_heightOfBoards 5 = .ok (.aload_n 0, 1) := by decide +kernel
theorem dX6_heightOfBoards_6 : decode cX6_heightOfBoards 6 = .ok (.getfield 57, 3) := by decide +kernel
theorem dX6_heightOfBoards_9 : decode cX6_heightOfBoards 9 = .ok (.if_icmp .ge 27, 3) := by decide +kernel
theorem dX6_heightOfBoards_12 : decode cX6_heightOfBoards 12 = .ok (.iload_n 1, 1) := by decide +kernel
theorem dX6_heightOfBoards_13 : decode cX6_heightOfBoards 13 = .ok (.aload_n 0, 1) := by decide +kernel
theorem dX6_heightOfBoards_14 : decode cX6_heightOfBoards 14 = .ok (.getfield 40, 3) := by decide +kernel
theorem dX6_heightOfBoards_17 : decode cX6_heightOfBoards 17 = .ok (.iload_n 2, 1) := by decide +kernel
theorem dX6_heightOfBoards_18 : decode cX6_heightOfBoards 18 = .ok (.aaload, 1) := by decide +kernel
theorem dX6_heightOfBoards_19 : decode cX6_heightOfBoards 19 = .ok (.aload_n 0, 1) := by decide +kernel
theorem dX6_heightOfBoards_20 : decode cX6_heightOfBoards 20 = .ok (.invokevirtual 124, 3) := by decide +kernel
theorem dX6_heightOfBoards_23 : decode cX6_heightOfBoards 23 = .ok (.aload_n 0, 1) := by decide +kernel
theorem dX6_heightOfBoards_24 : decode cX6_heightOfBoards 24 = .ok (.getfield 29, 3) := by decide +kernel
theorem dX6_heightOfBoards_27 : decode cX6_heightOfBoards 27 = .ok (.iadd, 1) := by decide +kernel
theorem dX6_heightOfBoards_28 : decode cX6_heightOfBoards 28 = .ok (.iadd, 1) := by decide +kernel
theorem dX6_heightOfBoards_29 : decode cX6_heightOfBoards 29 = .ok (.istore_n 1, 1) := by decide +kernel
theorem dX6_heightOfBoards_30 : decode cX6_heightOfBoards 30 = .ok (.iinc 2 1, 3) := by decide +kernel
theorem dX6_heightOfBoards_33 : decode cX6_heightOfBoards 33 = .ok (.goto (-29), 3) := by decide +kernel
theorem dX6_heightOfBoards_36 : decode cX6_heightOfBoards 36 = .ok (.iload_n 1, 1) := by decide +kernel
theorem dX6_heightOfBoards_37 : decode cX6_heightOfBoards 37 = .ok (.ireturn, 1) := by decide +kernel
theorem dX6_isAllowed_0 : decode cX6_isAllowed 0 = .ok (.iconst 0, 1) := by decide +kernel
theorem dX6_isAllowed_1 : decode cX6_isAllowed 1 = .ok (.istore_n 2, 1) := by decide +kernel
theorem dX6_isAllowed_2 : decode cX6_isAllowed 2 = .ok (.iload_n 2, 1) := by decide +kernel
theorem dX6_isAllowed_3 : decode cX6_isAllowed 3 = .ok (.aload_n 0, 1) := by decide +kernel
theorem dX6_isAllowed_4 : decode cX6_isAllowed 4 = .ok (.getfield 64, 3) := by decide +kernel
theorem dX6_isAllowed_7 : decode cX6_isAllowed 7 = .ok (.if_icmp .ge 21, 3) := by decide +kernel
theorem dX6_isAllowed_10 : decode cX6_isAllowed 10 = .ok (.aload_n 0, 1) := by decide +kernel
theorem dX6_isAllowed_11 : decode cX6_isAllowed 11 = .ok (.getfield 44, 3) := by decide +kernel
theorem dX6_isAllowed_14 : decode cX6_isAllowed 14 = .ok (.iload_n 2, 1) := by decide +kernel
theorem dX6_isAllowed_15 : decode cX6_isAllowed 15 = .ok (.iaload, 1) := by decide +kernel
theorem dX6_isAllowed_16 : decode cX6_isAllowed 16 = .ok (.iload_n 1, 1) := by decide +kernel
theorem dX6_isAllowed_17 : decode cX6_isAllowed 17 = .ok (.if_icmp .ne 5, 3) := by decide +kernel
theorem dX6_isAllowed_20 : decode cX6_isAllowed 20 = .ok (.iconst 1, 1) := by decide +kernel
theorem dX6_isAllowed_21 : decode cX6_isAllowed 21 = .ok (.ireturn, 1) := by decide +kernel
theorem dX6_isAllowed_22 : decode cX6_isAllowed 22 = .ok (.iinc 2 1, 3) := by decide +kernel
theorem dX6_isAllowed_25 : decode cX6_isAllowed 25 = .ok (.goto (-23), 3) := by decide +kernel
theorem dX6_isAllowed_28 : decode cX6_isAllowed 28 = .ok (.iconst 0, 1) := by decide +kernel
theorem dX6_isAllowed_29 : decode cX6_isAllowed 29 = .ok (.ireturn, 1) := by decide +kernel
theorem dX6_addAllowed_0 : decode cX6_addAllowed 0 = .ok (.aload_n 0, 1) := by decide +kernel
theorem dX6_addAllowed_1 : decode cX6_addAllowed 1 = .ok (.getfield 64, 3) := by decide +kernel
theorem dX6_addAllowed_4 : decode cX6_addAllowed 4 = .ok (.bipush 6, 2) := by decide +kernel
theorem dX6_addAllowed_6 : decode cX6_addAllowed 6 = .ok (.if_icmp .lt 6, 3) := by decide +kernel
theorem dX6_addAllowed_9 : decode cX6_addAllowed 9 = .ok (.ldc 80, 2) := by decide +kernel
theorem dX6_addAllowed_11 : decode cX6_addAllowed 11 = .ok (.ireturn, 1) := by decide +kernel
theorem dX6_addAllowed_12 : decode cX6_addAllowed 12 = .ok (.aload_n 0, 1) := by decide +kernel
theorem dX6_addAllowed_13 : decode cX6_addAllowed 13 = .ok (.getfield 44, 3) := by decide +kernel
theorem dX6_addAllowed_16 : decode cX6_addAllowed 16 = .ok (.aload_n 0, 1) := by decide +kernel
theorem dX6_addAllowed_17 : decode cX6_addAllowed 17 = .ok (.getfield 64, 3) := by decide +kernel
theorem dX6_addAllowed_20 : decode cX6_addAllowed 20 = .ok (.iload_n 1, 1) := by decide +kernel
theorem dX6_addAllowed_21 : decode cX6_addAllowed 21 = .ok (.iastore, 1) := by decide +kernel
theorem dX6_addAllowed_22 : decode cX6_addAllowed 22 = .ok (.aload_n 0, 1) := by decide +kernel
theorem dX6_addAllowed_23 : decode cX6_addAllowed 23 = .ok (.dup, 1) := by decide +kernel
theorem dX6_addAllowed_24 : decode cX6_addAllowed 24 = .ok (.getfield 64, 3) := by decide +kernel
theorem dX6_addAllowed_27 : decode cX6_addAllowed 27 = .ok (.iconst 1, 1) := by decide +kernel
theorem dX6_addAllowed_28 : decode cX6_addAllowed 28 = .ok (.iadd, 1) := by decide +kernel
theorem dX6_addAllowed_29 : decode cX6_addAllowed 29 = .ok (.putfield 64, 3) := by decide +kernel
theorem dX6_addAllowed_32 : decode cX6_addAllowed 32 = .ok (.aload_n 0, 1) := by decide +kernel
theorem dX6_addAllowed_33 : decode cX6_addAllowed 33 = .ok (.getfield 64, 3) := by decide +kernel
theorem dX6_addAllowed_36 : decode cX6_addAllowed 36 = .ok (.ireturn, 1) := by decide +kernel
theorem dX6_addText_0 : decode cX6_addText 0 = .ok (.aload_n 0, 1) := by decide +kernel
theorem dX6_addText_1 : decode cX6_addText 1 = .ok (.getfield 73, 3) := by decide +kernel
theorem dX6_addText_4 : decode cX6_addText 4 = .ok (.bipush 14, 2) := by decide +kernel
theorem dX6_addText_6 : decode cX6_addText 6 = .ok (.if_icmp .lt 6, 3) := by decide +kernel
theorem dX6_addText_9 : decode cX6_addText 9 = .ok (.ldc 80, 2) := by decide +kernel
theorem dX6_addText_11 : decode cX6_addText 11 = .ok (.ireturn, 1) := by decide +kernel
theorem dX6_addText_12 : decode cX6_addText 12 = .ok (.aload_n 0, 1) := by decide +kernel
theorem dX6_addText_13 : decode cX6_addText 13 = .ok (.getfield 49, 3) := by decide +kernel
theorem dX6_addText_16 : decode cX6_addText 16 = .ok (.aload_n 0, 1) := by decide +kernel
theorem dX6_addText_17 : decode cX6_addText 17 = .ok (.getfield 73, 3) := by decide +kernel
theorem dX6_addText_20 : decode cX6_addText 20 = .ok (.aload_n 1, 1) := by decide +kernel
theorem dX6_addText_21 : decode cX6_addText 21 = .ok (.aastore, 1) := by decide +kernel
theorem dX6_addText_22 : decode cX6_addText 22 = .ok (.aload_n 0, 1) := by decide +kernel
theorem dX6_addText_23 : decode cX6_addText 23 = .ok (.dup, 1) := by decide +kernel
theorem dX6_addText_24 : decode cX6_addText 24 = .ok (.getfield 73, 3) := by decide +kernel
theorem dX6_addText_27 : decode cX6_addText 27 = .ok (.iconst 1, 1) := by decide +kernel
theorem dX6_addText_28 : decode cX6_addText 28 = .ok (.iadd, 1) := by decide +kernel
theorem dX6_addText_29 : decode cX6_addText 29 = .ok (.putfield 73, 3) := by decide +kernel
theorem dX6_addText_32 : decode cX6_addText 32 = .ok (.aload_n 0, 1) := by decide +kernel
theorem dX6_addText_33 : decode cX6_addText 33 = .ok (.getfield 73, 3) := by decide +kernel
theorem dX6_addText_36 : decode cX6_addText 36 = .ok (.iconst 1, 1) := by decide +kernel
theorem dX6_addText_37 : decode cX6_addText 37 = .ok (.isub, 1) := by decide +kernel
theorem dX6_addText_38 : decode cX6_addText 38 = .ok (.ireturn, 1) := by decide +kernel
theorem dX6_textAt_0 : decode cX6_textAt 0 = .ok (.iload_n 1, 1) := by decide +kernel
theorem dX6_textAt_1 : decode cX6_textAt 1 = .ok (.iconst 0, 1) := by decide +kernel
theorem dX6_textAt_2 : decode cX6_textAt 2 = .ok (.aload_n 0, 1) := by decide +kernel
theorem dX6_textAt_3 : decode cX6_textAt 3 = .ok (.getfield 73, 3) := by decide +kernel
theorem dX6_textAt_6 : decode cX6_textAt 6 = .ok (.iconst 1, 1) := by decide +kernel
theorem dX6_textAt_7 : decode cX6_textAt 7 = .ok (.isub, 1) := by decide +kernel
theorem dX6_textAt_8 : decode cX6_textAt 8 = .ok (.invokestatic 76, 3) := by decide +kernel
theorem dX6_textAt_11 : decode cX6_textAt 11 = .ok (.ifCond .eq 12, 3) := by decide +kernel
theorem dX6_textAt_14 : decode cX6_textAt 14 = .ok (.aload_n 0, 1) := by decide +kernel
theorem dX6_textAt_15 : decode cX6_textAt 15 = .ok (.getfield 49, 3) := by decide +kernel
theorem dX6_textAt_18 : decode cX6_textAt 18 = .ok (.iload_n 1, 1) := by decide +kernel
theorem dX6_textAt_19 : decode cX6_textAt 19 = .ok (.aaload, 1) := by decide +kernel
theorem dX6_textAt_20 : decode cX6_textAt 20 = .ok (.goto 4, 3) := by decide +kernel
theorem dX6_textAt_23 : decode cX6_textAt 23 = .ok (.aconst_null, 1) := by decide +kernel
theorem dX6_textAt_24 : decode cX6_textAt 24 = .ok (.areturn, 1) := by decide +kernel
theorem dX6_lastTextOf_0 : decode cX6_lastTextOf 0 = .ok (.aload_n 0, 1) := by decide +kernel
theorem dX6_lastTextOf_1 : decode cX6_lastTextOf 1 = .ok (.getfield 73, 3) := by decide +kernel
theorem dX6_lastTextOf_4 : decode cX6_lastTextOf 4 = .ok (.iconst 1, 1) := by decide +kernel
theorem dX6_lastTextOf_5 : decode cX6_lastTextOf 5 = .ok (.isub, 1) := by decide +kernel
theorem dX6_lastTextOf_6 : decode cX6_lastTextOf 6 = .ok (.istore_n 2, 1) := by decide +kernel
theorem dX6_lastTextOf_7 : decode cX6_lastTextOf 7 = .ok (.iload_n 2, 1) := by decide +kernel
theorem dX6_lastTextOf_8 : decode cX6_lastTextOf 8 = .ok (.ifCond .lt 33, 3) := by decide +kernel
theorem dX6_lastTextOf_11 : decode cX6_lastTextOf 11 = .ok (.aload_n 0, 1) := by decide +kernel
theorem dX6_lastTextOf_12 : decode cX6_lastTextOf 12 = .ok (.getfield 49, 3) := by decide +kernel
theorem dX6_lastTextOf_15 : decode cX6_lastTextOf 15 = .ok (.iload_n 2, 1) := by decide +kernel
theorem dX6_lastTextOf_16 : decode cX6_lastTextOf 16 = .ok (.aaload, 1) := by decide +kernel
theorem dX6_lastTextOf_17 : decode cX6_lastTextOf 17 = .ok (.ifnull 18, 3) := by decide +kernel
theorem dX6_lastTextOf_20 : decode cX6_lastTextOf 20 = .ok (.aload_n 0, 1) := by decide +kernel
theorem dX6_lastTextOf_21 : decode cX6_lastTextOf 21 = .ok (.getfield 49, 3) := by decide +kernel
theorem dX6_lastTextOf_24 : decode cX6_lastTextOf 24 = .ok (.iload_n 2, 1) := by decide +kernel
theorem dX6_lastTextOf_25 : decode cX6_lastTextOf 25 = .ok (.aaload, 1) := by decide +kernel
theorem dX6_lastTextOf_26 : decode cX6_lastTextOf 26 = .ok (.getfield 128, 3) := by decide +kernel
theorem dX6_lastTextOf_29 : decode cX6_lastTextOf 29 = .ok (.iload_n 1, 1) := by decide +kernel
theorem dX6_lastTextOf_30 : decode cX6_lastTextOf 30 = .ok (.if_icmp .ne 5, 3) := by decide +kernel
theorem dX6_lastTextOf_33 : decode cX6_lastTextOf 33 = .ok (.iload_n 2, 1) := by decide +kernel
theorem dX6_lastTextOf_34 : decode cX6_lastTextOf 34 = .ok (.ireturn, 1) := by decide +kernel
theorem dX6_lastTextOf_35 : decode cX6_lastTextOf 35 = .ok (.iinc 2 (-1), 3) := by decide +kernel
theorem dX6_lastTextOf_38 : decode cX6_lastTextOf 38 = .ok (.goto (-31), 3) := by decide +kernel
theorem dX6_lastTextOf_41 : decode cX6_lastTextOf 41 = .ok (.ldc 119, 2) := by decide +kernel
theorem dX6_lastTextOf_43 : decode cX6_lastTextOf 43 = .ok (.ireturn, 1) := by decide +kernel
theorem dX6_lawOf_0 : decode cX6_lawOf 0 = .ok (.aload_n 0, 1) := by decide +kernel
theorem dX6_lawOf_1 : decode cX6_lawOf 1 = .ok (.aload_n 0, 1) := by decide +kernel
theorem dX6_lawOf_2 : decode cX6_lawOf 2 = .ok (.iload_n 1, 1) := by decide +kernel
theorem dX6_lawOf_3 : decode cX6_lawOf 3 = .ok (.invokevirtual 131, 3) := by decide +kernel
theorem dX6_lawOf_6 : decode cX6_lawOf 6 = .ok (.invokevirtual 134, 3) := by decide +kernel
theorem dX6_lawOf_9 : decode cX6_lawOf 9 = .ok (.areturn, 1) := by decide +kernel
theorem dX7_init_0 : decode cX7_init 0 = .ok (.aload_n 0, 1) := by decide +kernel
theorem dX7_init_1 : decode cX7_init 1 = .ok (.invokespecial 3, 3) := by decide +kernel
theorem dX7_init_4 : decode cX7_init 4 = .ok (.aload_n 0, 1) := by decide +kernel
theorem dX7_init_5 : decode cX7_init 5 = .ok (.bipush 96, 2) := by decide +kernel
theorem dX7_init_7 : decode cX7_init 7 = .ok (.newarray .int, 2) := by decide +kernel
theorem dX7_init_9 : decode cX7_init 9 = .ok (.putfield 9, 3) := by decide +kernel
theorem dX7_init_12 : decode cX7_init 12 = .ok (.return_, 1) := by decide +kernel
theorem dX7_add_0 : decode cX7_add 0 = .ok (.bipush 24, 2) := by decide +kernel
theorem dX7_add_2 : decode cX7_add 2 = .ok (.istore_n 2, 1) := by decide +kernel
theorem dX7_add_3 : decode cX7_add 3 = .ok (.iload_n 2, 1) := by decide +kernel
theorem dX7_add_4 : decode cX7_add 4 = .ok (.ifCond .lt 44, 3) := by decide +kernel
theorem dX7_add_7 : decode cX7_add 7 = .ok (.aload_n 0, 1) := by decide +kernel
theorem dX7_add_8 : decode cX7_add 8 = .ok (.getfield 15, 3) := by decide +kernel
theorem dX7_add_11 : decode cX7_add 11 = .ok (.bipush 96, 2) := by decide +kernel
theorem dX7_add_13 : decode cX7_add 13 = .ok (.if_icmp .ge 35, 3) := by decide +kernel
theorem dX7_add_16 : decode cX7_add 16 = .ok (.aload_n 0, 1) := by decide +kernel
theorem dX7_add_17 : decode cX7_add 17 = .ok (.getfield 9, 3) := by decide +kernel
theorem dX7_add_20 : decode cX7_add 20 = .ok (.aload_n 0, 1) := by decide +kernel
theorem dX7_add_21 : decode cX7_add 21 = .ok (.getfield 15, 3) := by decide +kernel
theorem dX7_add_24 : decode cX7_add 24 = .ok (.iload_n 1, 1) := by decide +kernel
theorem dX7_add_25 : decode cX7_add 25 = .ok (.iload_n 2, 1) := by decide +kernel
theorem dX7_add_26 : decode cX7_add 26 = .ok (.iushr, 1) := by decide +kernel
theorem dX7_add_27 : decode cX7_add 27 = .ok (.sipush 255, 3) := by decide +kernel
theorem dX7_add_30 : decode cX7_add 30 = .ok (.iand, 1) := by decide +kernel
theorem dX7_add_31 : decode cX7_add 31 = .ok (.iastore, 1) := by decide +kernel
theorem dX7_add_32 : decode cX7_add 32 = .ok (.aload_n 0, 1) := by decide +kernel
theorem dX7_add_33 : decode cX7_add 33 = .ok (.dup, 1) := by decide +kernel
theorem dX7_add_34 : decode cX7_add 34 = .ok (.getfield 15, 3) := by decide +kernel
theorem dX7_add_37 : decode cX7_add 37 = .ok (.iconst 1, 1) := by decide +kernel
theorem dX7_add_38 : decode cX7_add 38 = .ok (.iadd, 1) := by decide +kernel
theorem dX7_add_39 : decode cX7_add 39 = .ok (.putfield 15, 3) := by decide +kernel
theorem dX7_add_42 : decode cX7_add 42 = .ok (.iinc 2 (-8), 3) := by decide +kernel
theorem dX7_add_45 : decode cX7_add 45 = .ok (.goto (-42), 3) := by decide +kernel
theorem dX7_add_48 : decode cX7_add 48 = .ok (.return_, 1) := by decide +kernel
theorem dX7_begin_0 : decode cX7_begin 0 = .ok (.aload_n 0, 1) := by decide +kernel
theorem dX7_begin_1 : decode cX7_begin 1 = .ok (.iconst 0, 1) := by decide +kernel
theorem dX7_begin_2 : decode cX7_begin 2 = .ok (.putfield 19, 3) := by decide +kernel
theorem dX7_begin_5 : decode cX7_begin 5 = .ok (.aload_n 0, 1) := by decide +kernel
theorem dX7_begin_6 : decode cX7_begin 6 = .ok (.iconst 0, 1) := by decide +kernel
theorem dX7_begin_7 : decode cX7_begin 7 = .ok (.putfield 22, 3) := by decide +kernel
theorem dX7_begin_10 : decode cX7_begin 10 = .ok (.aload_n 0, 1) := by decide +kernel
theorem dX7_begin_11 : decode cX7_begin 11 = .ok (.invokevirtual 25, 3) := by decide +kernel
theorem dX7_begin_14 : decode cX7_begin 14 = .ok (.return_, 1) := by decide +kernel
theorem dX7_advance_0 : decode cX7_advance 0 = .ok (.aload_n 0, 1) := by decide +kernel
theorem dX7_advance_1 : decode cX7_advance 1 = .ok (.getfield 22, 3) := by decide +kernel
theorem dX7_advance_4 : decode cX7_advance 4 = .ok (.istore_n 1, 1) := by decide +kernel
theorem dX7_advance_5 : decode cX7_advance 5 = .ok (.aload_n 0, 1) := by decide +kernel
theorem dX7_advance_6 : decode cX7_advance 6 = .ok (.getfield 19, 3) := by decide +kernel
theorem dX7_advance_9 : decode cX7_advance 9 = .ok (.iconst 1, 1) := by decide +kernel
theorem dX7_advance_10 : decode cX7_advance 10 = .ok (.if_icmp .eq 11, 3) := by decide +kernel
theorem dX7_advance_13 : decode cX7_advance 13 = .ok (.aload_n 0, 1) := by decide +kernel
theorem dX7_advance_14 : decode cX7_advance 14 = .ok (.getfield 19, 3) := by decide +kernel
theorem dX7_advance_17 : decode cX7_advance 17 = .ok (.iconst 2, 1) := by decide +kernel
theorem dX7_advance_18 : decode cX7_advance 18 = .ok (.if_icmp .ne 7, 3) := by decide +kernel
theorem dX7_advance_21 : decode cX7_advance 21 = .ok (.iconst 1, 1) := by decide +kernel
theorem dX7_advance_22 : decode cX7_advance 22 = .ok (.goto 4, 3) := by decide +kernel
theorem dX7_advance_25 : decode cX7_advance 25 = .ok (.iconst 0, 1) := by decide +kernel
theorem dX7_advance_26 : decode cX7_advance 26 = .ok (.istore_n 2, 1) := by decide +kernel
theorem dX7_advance_27 : decode cX7_advance 27 = .ok (.aload_n 0, 1) := by decide +kernel
theorem dX7_advance_28 : decode cX7_advance 28 = .ok (.iload_n 1, 1) := by decide +kernel
theorem dX7_advance_29 : decode cX7_advance 29 = .ok (.putfield 28, 3) := by decide +kernel
theorem dX7_advance_32 : decode cX7_advance 32 = .ok (.aload_n 0, 1) := by decide +kernel
theorem dX7_advance_33 : decode cX7_advance 33 = .ok (.getfield 28, 3) := by decide +kernel
theorem dX7_advance_36 : decode cX7_advance 36 = .ok (.aload_n 0, 1) := by decide +kernel
theorem dX7_advance_37 : decode cX7_advance 37 = .ok (.getfield 15, 3) := by decide +kernel
theorem dX7_advance_40 : decode cX7_advance 40 = .ok (.if_icmp .ge 30, 3) := by decide +kernel
theorem dX7_advance_43 : decode cX7_advance 43 = .ok (.aload_n 0, 1) := by decide +kernel
theorem dX7_advance_44 : decode cX7_advance 44 = .ok (.getfield 9, 3) := by decide +kernel
theorem dX7_advance_47 : decode cX7_advance 47 = .ok (.aload_n 0, 1) := by decide +kernel
theorem dX7_advance_48 : decode cX7_advance 48 = .ok (.getfield 28, 3) := by decide +kernel
theorem dX7_advance_51 : decode cX7_advance 51 = .ok (.iaload, 1) := by decide +kernel
theorem dX7_advance_52 : decode cX7_advance 52 = .ok (.bipush 32, 2) := by decide +kernel
theorem dX7_advance_54 : decode cX7_advance 54 = .ok (.if_icmp .ne 16, 3) := by decide +kernel
theorem dX7_advance_57 : decode cX7_advance 57 = .ok (.aload_n 0, 1) := by decide +kernel
theorem dX7_advance_58 : decode cX7_advance 58 = .ok (.dup, 1) := by decide +kernel
theorem dX7_advance_59 : decode cX7_advance 59 = .ok (.getfield 28, 3) := by decide +kernel
theorem dX7_advance_62 : decode cX7_advance 62 = .ok (.iconst 1, 1) := by decide +kernel
theorem dX7_advance_63 : decode cX7_advance 63 = .ok (.iadd, 1) := by decide +kernel
theorem dX7_advance_64 : decode cX7_advance 64 = .ok (.putfield 28, 3) := by decide +kernel
theorem dX7_advance_67 : decode cX7_advance 67 = .ok (.goto (-35), 3) := by decide +kernel
theorem dX7_advance_70 : decode cX7_advance 70 = .ok (.aload_n 0, 1) := by decide +kernel
theorem dX7_advance_71 : decode cX7_advance 71 = .ok (.aload_n 0, 1) := by decide +kernel
theorem dX7_advance_72 : decode cX7_advance 72 = .ok (.aload_n 0, 1) := by decide +kernel
theorem dX7_advance_73 : decode cX7_advance 73 = .ok (.getfield 28, 3) := by decide +kernel
theorem dX7_advance_76 : decode cX7_advance 76 = .ok (.invokevirtual 31, 3) := by decide +kernel
theorem dX7_advance_79 : decode cX7_advance 79 = .ok (.putfield 19, 3) := by decide +kernel
theorem dX7_advance_82 : decode cX7_advance 82 = .ok (.aload_n 0, 1) := by decide +kernel
theorem dX7_advance_83 : decode cX7_advance 83 = .ok (.getfield 19, 3) := by decide +kernel
theorem dX7_advance_86 : decode cX7_advance 86 = .ok (.iconst 1, 1) := by decide +kernel
theorem dX7_advance_87 : decode cX7_advance 87 = .ok (.if_icmp .eq 11, 3) := by decide +kernel
theorem dX7_advance_90 : decode cX7_advance 90 = .ok (.aload_n 0, 1) := by decide +kernel
theorem dX7_advance_91 : decode cX7_advance 91 = .ok (.getfield 19, 3) := by decide +kernel
theorem dX7_advance_94 : decode cX7_advance 94 = .ok (.iconst 2, 1) := by decide +kernel
theorem dX7_advance_95 : decode cX7_advance 95 = .ok (.if_icmp .ne 7, 3) := by decide +kernel
theorem dX7_advance_98 : decode cX7_advance 98 = .ok (.iconst 1, 1) := by decide +kernel
theorem dX7_advance_99 : decode cX7_advance 99 = .ok (.goto 4, 3) := by decide +kernel
theorem dX7_advance_102 : decode cX7_advance 102 = .ok (.iconst 0, 1) := by decide +kernel
theorem dX7_advance_103 : decode cX7_advance 103 = .ok (.istore_n 3, 1) := by decide +kernel
theorem dX7_advance_104 : decode cX7_advance 104 = .ok (.aload_n 0, 1) := by decide +kernel
theorem dX7_advance_105 : decode cX7_advance 105 = .ok (.aload_n 0, 1) := by decide +kernel
theorem dX7_advance_106 : decode cX7_advance 106 = .ok (.getfield 19, 3) := by decide +kernel
theorem dX7_advance_109 : decode cX7_advance 109 = .ok (.ifCond .ne 10, 3) := by decide +kernel
theorem dX7_advance_112 : decode cX7_advance 112 = .ok (.aload_n 0, 1) := by decide +kernel
theorem dX7_advance_113 : decode cX7_advance 113 = .ok (.getfield 28, 3) := by decide +kernel
theorem dX7_advance_116 : decode cX7_advance 116 = .ok (.goto 9, 3) := by decide +kernel
theorem dX7_advance_119 : decode cX7_advance 119 = .ok (.aload_n 0, 1) := by decide +kernel
theorem dX7_advance_120 : decode cX7_advance 120 = .ok (.getfield 28, 3) := by decide +kernel
theorem dX7_advance_123 : decode cX7_advance 123 = .ok (.iconst 1, 1) := by decide +kernel
theorem dX7_advance_124 : decode cX7_advance 124 = .ok (.iadd, 1) := by decide +kernel
theorem dX7_advance_125 : decode cX7_advance 125 = .ok (.putfield 22, 3) := by decide +kernel
theorem dX7_advance_128 : decode cX7_advance 128 = .ok (.iload_n 3, 1) := by decide +kernel
theorem dX7_advance_129 : decode cX7_advance 129 = .ok (.ifCond .eq 42, 3) := by decide +kernel
theorem dX7_advance_132 : decode cX7_advance 132 = .ok (.aload_n 0, 1) := by decide +kernel
theorem dX7_advance_133 : decode cX7_advance 133 = .ok (.getfield 22, 3) := by decide +kernel
theorem dX7_advance_136 : decode cX7_advance 136 = .ok (.aload_n 0, 1) := by decide +kernel
theorem dX7_advance_137 : decode cX7_advance 137 = .ok (.getfield 15, 3) := by decide +kernel
theorem dX7_advance_140 : decode cX7_advance 140 = .ok (.if_icmp .ge 31, 3) := by decide +kernel
theorem dX7_advance_143 : decode cX7_advance 143 = .ok (.aload_n 0, 1) := by decide +kernel
theorem dX7_advance_144 : decode cX7_advance 144 = .ok (.aload_n 0, 1) := by decide +kernel
theorem dX7_advance_145 : decode cX7_advance 145 = .ok (.getfield 22, 3) := by decide +kernel
theorem dX7_advance_148 : decode cX7_advance 148 = .ok (.invokevirtual 31, 3) := by decide +kernel
theorem dX7_advance_151 : decode cX7_advance 151 = .ok (.aload_n 0, 1) := by decide +kernel
theorem dX7_advance_152 : decode cX7_advance 152 = .ok (.getfield 19, 3) := by decide +kernel
theorem dX7_advance_155 : decode cX7_advance 155 = .ok (.if_icmp .ne 16, 3) := by decide +kernel
theorem dX7_advance_158 : decode cX7_advance 158 = .ok (.aload_n 0, 1) := by decide +kernel
theorem dX7_advance_159 : decode cX7_advance 159 = .ok (.dup, 1) := by decide +kernel
theorem dX7_advance_160 : decode cX7_advance 160 = .ok (.getfield 22, 3) := by decide +kernel
theorem dX7_advance_163 : decode cX7_advance 163 = .ok (.iconst 1, 1) := by decide +kernel
theorem dX7_advance_164 : decode cX7_advance 164 = .ok (.iadd, 1) := by decide +kernel
theorem dX7_advance_165 : decode cX7_advance 165 = .ok (.putfield 22, 3) := by decide +kernel
theorem dX7_advance_168 : decode cX7_advance 168 = .ok (.goto (-40), 3) := by decide +kernel
theorem dX7_advance_171 : decode cX7_advance 171 = .ok (.iload_n 3, 1) := by decide +kernel
theorem dX7_advance_172 : decode cX7_advance 172 = .ok (.ifCond .eq 19, 3) := by decide +kernel
theorem dX7_advance_175 : decode cX7_advance 175 = .ok (.iload_n 2, 1) := by decide +kernel
theorem dX7_advance_176 : decode cX7_advance 176 = .ok (.ifCond .eq 15, 3) := by decide +kernel
theorem dX7_advance_179 : decode cX7_advance 179 = .ok (.aload_n 0, 1) := by decide +kernel
theorem dX7_advance_180 : decode cX7_advance 180 = .ok (.getfield 28, 3) := by decide +kernel
theorem dX7_advance_183 : decode cX7_advance 183 = .ok (.iload_n 1, 1) := by decide +kernel
theorem dX7_advance_184 : decode cX7_advance 184 = .ok (.if_icmp .ne 7, 3) := by decide +kernel
theorem dX7_advance_187 : decode cX7_advance 187 = .ok (.iconst 1, 1) := by decide +kernel
theorem dX7_advance_188 : decode cX7_advance 188 = .ok (.goto 4, 3) := by decide +kernel
theorem dX7_advance_191 : decode cX7_advance 191 = .ok (.iconst 0, 1) := by decide +kernel
theorem dX7_advance_192 : decode cX7_advance 192 = .ok (.istore 4, 2) := by decide +kernel
theorem dX7_advance_194 : decode cX7_advance 194 = .ok (.iload 4, 2) := by decide +kernel
theorem dX7_advance_196 : decode cX7_advance 196 = .ok (.ifCond .ne 24, 3) := by decide +kernel
theorem dX7_advance_199 : decode cX7_advance 199 = .ok (.aload_n 0, 1) := by decide +kernel
theorem dX7_advance_200 : decode cX7_advance 200 = .ok (.getfield 19, 3) := by decide +kernel
theorem dX7_advance_203 : decode cX7_advance 203 = .ok (.iconst 2, 1) := by decide +kernel
theorem dX7_advance_204 : decode cX7_advance 204 = .ok (.if_icmp .ne 21, 3) := by decide +kernel
theorem dX7_advance_207 : decode cX7_advance 207 = .ok (.aload_n 0, 1) := by decide +kernel
theorem dX7_advance_208 : decode cX7_advance 208 = .ok (.getfield 22, 3) := by decide +kernel
theorem dX7_advance_211 : decode cX7_advance 211 = .ok (.aload_n 0, 1) := by decide +kernel
theorem dX7_advance_212 : decode cX7_advance 212 = .ok (.getfield 28, 3) := by decide +kernel
theorem dX7_advance_215 : decode cX7_advance 215 = .ok (.isub, 1) := by decide +kernel
theorem dX7_advance_216 : decode cX7_advance 216 = .ok (.iconst 4, 1) := by decide +kernel
theorem dX7_advance_217 : decode cX7_advance 217 = .ok (.if_icmp .le 8, 3) := by decide +kernel
theorem dX7_advance_220 : decode cX7_advance 220 = .ok (.aload_n 0, 1) := by decide +kernel
theorem dX7_advance_221 : decode cX7_advance 221 = .ok (.iconst 4, 1) := by decide +kernel
theorem dX7_advance_222 : decode cX7_advance 222 = .ok (.putfield 19, 3) := by decide +kernel
theorem dX7_advance_225 : decode cX7_advance 225 = .ok (.return_, 1) := by decide +kernel
theorem dX7_sortAt_0 : decode cX7_sortAt 0 = .ok (.iload_n 1, 1) := by decide +kernel
theorem dX7_sortAt_1 : decode cX7_sortAt 1 = .ok (.iconst 0, 1) := by decide +kernel
theorem dX7_sortAt_2 : decode cX7_sortAt 2 = .ok (.aload_n 0, 1) := by decide +kernel
theorem dX7_sortAt_3 : decode cX7_sortAt 3 = .ok (.getfield 15, 3) := by decide +kernel
theorem dX7_sortAt_6 : decode cX7_sortAt 6 = .ok (.iconst 1, 1) := by decide +kernel
theorem dX7_sortAt_7 : decode cX7_sortAt 7 = .ok (.isub, 1) := by decide +kernel
theorem dX7_sortAt_8 : decode cX7_sortAt 8 = .ok (.invokestatic 35, 3) := by decide +kernel
theorem dX7_sortAt_11 : decode cX7_sortAt 11 = .ok (.ifCond .ne 5, 3) := by decide +kernel
theorem dX7_sortAt_14 : decode cX7_sortAt 14 = .ok (.iconst 0, 1) := by decide +kernel
theorem dX7_sortAt_15 : decode cX7_sortAt 15 = .ok (.ireturn, 1) := by decide +kernel
theorem dX7_sortAt_16 : decode cX7_sortAt 16 = .ok (.aload_n 0, 1) := by decide +kernel
theorem dX7_sortAt_17 : decode cX7_sortAt 17 = .ok (.getfield 9, 3) := by decide +kernel
theorem dX7_sortAt_20 : decode cX7_sortAt 20 = .ok (.iload_n 1, 1) := by decide +kernel
theorem dX7_sortAt_21 : decode cX7_sortAt 21 = .ok (.iaload, 1) := by decide +kernel
theorem dX7_sortAt_22 : decode cX7_sortAt 22 = .ok (.istore_n 2, 1) := by decide +kernel
theorem dX7_sortAt_23 : decode cX7_sortAt 23 = .ok (.iload_n 2, 1) := by decide +kernel
theorem dX7_sortAt_24 : decode cX7_sortAt 24 = .ok (.bipush 97, 2) := by decide +kernel
theorem dX7_sortAt_26 : decode cX7_sortAt 26 = .ok (.if_icmp .lt 11, 3) := by decide +kernel
theorem dX7_sortAt_29 : decode cX7_sortAt 29 = .ok (.iload_n 2, 1) := by decide +kernel
theorem dX7_sortAt_30 : decode cX7_sortAt 30 = .ok (.bipush 122, 2) := by decide +kernel
theorem dX7_sortAt_32 : decode cX7_sortAt 32 = .ok (.if_icmp .gt 5, 3) := by decide +kernel
theorem dX7_sortAt_35 : decode cX7_sortAt 35 = .ok (.iconst 1, 1) := by decide +kernel
theorem dX7_sortAt_36 : decode cX7_sortAt 36 = .ok (.ireturn, 1) := by decide +kernel
theorem dX7_sortAt_37 : decode cX7_sortAt 37 = .ok (.iload_n 2, 1) := by decide +kernel
theorem dX7_sortAt_38 : decode cX7_sortAt 38 = .ok (.bipush 48, 2) := by decide +kernel
theorem dX7_sortAt_40 : decode cX7_sortAt 40 = .ok (.if_icmp .lt 13, 3) := by decide +kernel
theorem dX7_sortAt_43 : decode cX7_sortAt 43 = .ok (.iload_n 2, 1) := by decide +kernel
theorem dX7_sortAt_44 : decode cX7_sortAt 44 = .ok (.bipush 57, 2) := by decide +kernel
theorem dX7_sortAt_46 : decode cX7_sortAt 46 = .ok (.if_icmp .gt 7, 3) := by decide +kernel
theorem dX7_sortAt_49 : decode cX7_sortAt 49 = .ok (.iconst 2, 1) := by decide +kernel
theorem dX7_sortAt_50 : decode cX7_sortAt 50 = .ok (.goto 4, 3) := by decide +kernel
theorem dX7_sortAt_53 : decode cX7_sortAt 53 = .ok (.iconst 3, 1) := by decide +kernel
theorem dX7_sortAt_54 : decode cX7_sortAt 54 = .ok (.ireturn, 1) := by decide +kernel
theorem dX7_sign_0 : decode cX7_sign 0 = .ok (.aload_n 0, 1) := by decide +kernel
theorem dX7_sign_1 : decode cX7_sign 1 = .ok (.getfield 19, 3) := by decide +kernel
theorem dX7_sign_4 : decode cX7_sign 4 = .ok (.iconst 3, 1) := by decide +kernel
theorem dX7_sign_5 : decode cX7_sign 5 = .ok (.if_icmp .ne 26, 3) := by decide +kernel
theorem dX7_sign_8 : decode cX7_sign 8 = .ok (.aload_n 0, 1) := by decide +kernel
theorem dX7_sign_9 : decode cX7_sign 9 = .ok (.getfield 28, 3) := by decide +kernel
theorem dX7_sign_12 : decode cX7_sign 12 = .ok (.aload_n 0, 1) := by decide +kernel
theorem dX7_sign_13 : decode cX7_sign 13 = .ok (.getfield 15, 3) := by decide +kernel
theorem dX7_sign_16 : decode cX7_sign 16 = .ok (.if_icmp .ge 15, 3) := by decide +kernel
theorem dX7_sign_19 : decode cX7_sign 19 = .ok (.aload_n 0, 1) := by decide +kernel
theorem dX7_sign_20 : decode cX7_sign 20 = .ok (.getfield 9, 3) := by decide +kernel
theorem dX7_sign_23 : decode cX7_sign 23 = .ok (.aload_n 0, 1) := by decide +kernel
theorem dX7_sign_24 : decode cX7_sign 24 = .ok (.getfield 28, 3) := by decide +kernel
theorem dX7_sign_27 : decode cX7_sign 27 = .ok (.iaload, 1) := by decide +kernel
theorem dX7_sign_28 : decode cX7_sign 28 = .ok (.goto 4, 3) := by decide +kernel
theorem dX7_sign_31 : decode cX7_sign 31 = .ok (.iconst 0, 1) := by decide +kernel
theorem dX7_sign_32 : decode cX7_sign 32 = .ok (.ireturn, 1) := by decide +kernel
theorem dX7_isWord_0 : decode cX7_isWord 0 = .ok (.aload_n 0, 1) := by decide +kernel
theorem dX7_isWord_1 : decode cX7_isWord 1 = .ok (.getfield 19, 3) := by decide +kernel
theorem dX7_isWord_4 : decode cX7_isWord 4 = .ok (.iconst 1, 1) := by decide +kernel
theorem dX7_isWord_5 : decode cX7_isWord 5 = .ok (.if_icmp .ne 19, 3) := by decide +kernel
theorem dX7_isWord_8 : decode cX7_isWord 8 = .ok (.aload_n 0, 1) := by decide +kernel
theorem dX7_isWord_9 : decode cX7_isWord 9 = .ok (.getfield 22, 3) := by decide +kernel
theorem dX7_isWord_12 : decode cX7_isWord 12 = .ok (.aload_n 0, 1) := by decide +kernel
theorem dX7_isWord_13 : decode cX7_isWord 13 = .ok (.getfield 28, 3) := by decide +kernel
theorem dX7_isWord_16 : decode cX7_isWord 16 = .ok (.isub, 1) := by decide +kernel
theorem dX7_isWord_17 : decode cX7_isWord 17 = .ok (.aload_n 1, 1) := by decide +kernel
theorem dX7_isWord_18 : decode cX7_isWord 18 = .ok (.invokevirtual 39, 3) := by decide +kernel
theorem dX7_isWord_21 : decode cX7_isWord 21 = .ok (.if_icmp .eq 5, 3) := by decide +kernel
theorem dX7_isWord_24 : decode cX7_isWord 24 = .ok (.iconst 0, 1) := by decide +kernel
theorem dX7_isWord_25 : decode cX7_isWord 25 = .ok (.ireturn, 1) := by decide +kernel
theorem dX7_isWord_26 : decode cX7_isWord 26 = .ok (.iconst 0, 1) := by decide +kernel
theorem dX7_isWord_27 : decode cX7_isWord 27 = .ok (.istore_n 2, 1) := by decide +kernel
theorem dX7_isWord_28 : decode cX7_isWord 28 = .ok (.iload_n 2, 1) := by decide +kernel
theorem dX7_isWord_29 : decode cX7_isWord 29 = .ok (.aload_n 1, 1) := by decide +kernel
theorem dX7_isWord_30 : decode cX7_isWord 30 = .ok (.invokevirtual 39, 3) := by decide +kernel
theorem dX7_isWord_33 : decode cX7_isWord 33 = .ok (.if_icmp .ge 43, 3) := by decide +kernel
theorem dX7_isWord_36 : decode cX7_isWord 36 = .ok (.aload_n 0, 1) := by decide +kernel
theorem dX7_isWord_37 : decode cX7_isWord 37 = .ok (.getfield 28, 3) := by decide +kernel
theorem dX7_isWord_40 : decode cX7_isWord 40 = .ok (.iload_n 2, 1) := by decide +kernel
theorem dX7_isWord_41 : decode cX7_isWord 41 = .ok (.iadd, 1) := by decide +kernel
theorem dX7_isWord_42 : decode cX7_isWord 42 = .ok (.aload_n 0, 1) := by decide +kernel
theorem dX7_isWord_43 : decode cX7_isWord 43 = .ok (.getfield 15, 3) := by decide +kernel
theorem dX7_isWord_46 : decode cX7_isWord 46 = .ok (.if_icmp .ge 30, 3) := by decide +kernel
theorem dX7_isWord_49 : decode cX7_isWord 49 = .ok (.aload_n 0, 1) := by decide +kernel
theorem dX7_isWord_50 : decode cX7_isWord 50 = .ok (.getfield 9, 3) := by decide +kernel
theorem dX7_isWord_53 : decode cX7_isWord 53 = .ok (.aload_n 0, 1) := by decide +kernel
theorem dX7_isWord_54 : decode cX7_isWord 54 = .ok (.getfield 28, 3) := by decide +kernel
theorem dX7_isWord_57 : decode cX7_isWord 57 = .ok (.iload_n 2, 1) := by decide +kernel
theorem dX7_isWord_58 : decode cX7_isWord 58 = .ok (.iadd, 1) := by decide +kernel
theorem dX7_isWord_59 : decode cX7_isWord 59 = .ok (.iaload, 1) := by decide +kernel
theorem dX7_isWord_60 : decode cX7_isWord 60 = .ok (.aload_n 1, 1) := by decide +kernel
theorem dX7_isWord_61 : decode cX7_isWord 61 = .ok (.iload_n 2, 1) := by decide +kernel
theorem dX7_isWord_62 : decode cX7_isWord 62 = .ok (.invokevirtual 44, 3) := by decide +kernel
theorem dX7_isWord_65 : decode cX7_isWord 65 = .ok (.if_icmp .eq 5, 3) := by decide +kernel
theorem dX7_isWord_68 : decode cX7_isWord 68 = .ok (.iconst 0, 1) := by decide +kernel
theorem dX7_isWord_69 : decode cX7_isWord 69 = .ok (.ireturn, 1) := by decide +kernel
theorem dX7_isWord_70 : decode cX7_isWord 70 = .ok (.iinc 2 1, 3) := by decide +kernel
theorem dX7_isWord_73 : decode cX7_isWord 73 = .ok (.goto (-45), 3) := by decide +kernel
theorem dX7_isWord_76 : decode cX7_isWord 76 = .ok (.iconst 1, 1) := by decide +kernel
theorem dX7_isWord_77 : decode cX7_isWord 77 = .ok (.ireturn, 1) := by decide +kernel
theorem dX7_nameAmong_0 : decode cX7_nameAmong 0 = .ok (.aload_n 0, 1) := by decide +kernel
theorem dX7_nameAmong_1 : decode cX7_nameAmong 1 = .ok (.getfield 19, 3) := by decide +kernel
theorem dX7_nameAmong_4 : decode cX7_nameAmong 4 = .ok (.iconst 1, 1) := by decide +kernel
theorem dX7_nameAmong_5 : decode cX7_nameAmong 5 = .ok (.if_icmp .ne 27, 3) := by decide +kernel
theorem dX7_nameAmong_8 : decode cX7_nameAmong 8 = .ok (.aload_n 0, 1) := by decide +kernel
theorem dX7_nameAmong_9 : decode cX7_nameAmong 9 = .ok (.getfield 22, 3) := by decide +kernel
theorem dX7_nameAmong_12 : decode cX7_nameAmong 12 = .ok (.aload_n 0, 1) := by decide +kernel
theorem dX7_nameAmong_13 : decode cX7_nameAmong 13 = .ok (.getfield 28, 3) := by decide +kernel
theorem dX7_nameAmong_16 : decode cX7_nameAmong 16 = .ok (.isub, 1) := by decide +kernel
theorem dX7_nameAmong_17 : decode cX7_nameAmong 17 = .ok (.iconst 1, 1) := by decide +kernel
theorem dX7_nameAmong_18 : decode cX7_nameAmong 18 = .ok (.if_icmp .ne 14, 3) := by decide +kernel
theorem dX7_nameAmong_21 : decode cX7_nameAmong 21 = .ok (.aload_n 0, 1) := by decide +kernel
theorem dX7_nameAmong_22 : decode cX7_nameAmong 22 = .ok (.getfield 28, 3) := by decide +kernel
theorem dX7_nameAmong_25 : decode cX7_nameAmong 25 = .ok (.aload_n 0, 1) := by decide +kernel
theorem dX7_nameAmong_26 : decode cX7_nameAmong 26 = .ok (.getfield 15, 3) := by decide +kernel
theorem dX7_nameAmong_29 : decode cX7_nameAmong 29 = .ok (.if_icmp .lt 5, 3) := by decide +kernel
theorem dX7_nameAmong_32 : decode cX7_nameAmong 32 = .ok (.iconst (-1), 1) := by decide +kernel
theorem dX7_nameAmong_33 : decode cX7_nameAmong 33 = .ok (.ireturn, 1) := by decide +kernel
theorem dX7_nameAmong_34 : decode cX7_nameAmong 34 = .ok (.aload_n 1, 1) := by decide +kernel
theorem dX7_nameAmong_35 : decode cX7_nameAmong 35 = .ok (.aload_n 0, 1) := by decide +kernel
theorem dX7_nameAmong_36 : decode cX7_nameAmong 36 = .ok (.getfield 9, 3) := by decide +kernel
theorem dX7_nameAmong_39 : decode cX7_nameAmong 39 = .ok (.aload_n 0, 1) := by decide +kernel
theorem dX7_nameAmong_40 : decode cX7_nameAmong 40 = .ok (.getfield 28, 3) := by decide +kernel
theorem dX7_nameAmong_43 : decode cX7_nameAmong 43 = .ok (.iaload, 1) := by decide +kernel
theorem dX7_nameAmong_44 : decode cX7_nameAmong 44 = .ok (.i2c, 1) := by decide +kernel
theorem dX7_nameAmong_45 : decode cX7_nameAmong 45 = .ok (.invokevirtual 48, 3) := by decide +kernel
theorem dX7_nameAmong_48 : decode cX7_nameAmong 48 = .ok (.ireturn, 1) := by decide +kernel
theorem dX7_number_0 : decode cX7_number 0 = .ok (.iconst 0, 1) := by decide +kernel
theorem dX7_number_1 : decode cX7_number 1 = .ok (.istore_n 1, 1) := by decide +kernel
theorem dX7_number_2 : decode cX7_number 2 = .ok (.aload_n 0, 1) := by decide +kernel
theorem dX7_number_3 : decode cX7_number 3 = .ok (.getfield 28, 3) := by decide +kernel
theorem dX7_number_6 : decode cX7_number 6 = .ok (.istore_n 2, 1) := by decide +kernel
theorem dX7_number_7 : decode cX7_number 7 = .ok (.iload_n 2, 1) := by decide +kernel
theorem dX7_number_8 : decode cX7_number 8 = .ok (.aload_n 0, 1) := by decide +kernel
theorem dX7_number_9 : decode cX7_number 9 = .ok (.getfield 22, 3) := by decide +kernel
theorem dX7_number_12 : decode cX7_number 12 = .ok (.if_icmp .ge 32, 3) := by decide +kernel
theorem dX7_number_15 : decode cX7_number 15 = .ok (.iload_n 2, 1) := by decide +kernel
theorem dX7_number_16 : decode cX7_number 16 = .ok (.aload_n 0, 1) := by decide +kernel
theorem dX7_number_17 : decode cX7_number 17 = .ok (.getfield 15, 3) := by decide +kernel
theorem dX7_number_20 : decode cX7_number 20 = .ok (.if_icmp .ge 24, 3) := by decide +kernel
theorem dX7_number_23 : decode cX7_number 23 = .ok (.iload_n 1, 1) := by decide +kernel
theorem dX7_number_24 : decode cX7_number 24 = .ok (.bipush 10, 2) := by decide +kernel
theorem dX7_number_26 : decode cX7_number 26 = .ok (.imul, 1) := by decide +kernel
theorem dX7_number_27 : decode cX7_number 27 = .ok (.aload_n 0, 1) := by decide +kernel
theorem dX7_number_28 : decode cX7_number 28 = .ok (.getfield 9, 3) := by decide +kernel
theorem dX7_number_31 : decode cX7_number 31 = .ok (.iload_n 2, 1) := by decide +kernel
theorem dX7_number_32 : decode cX7_number 32 = .ok (.iaload, 1) := by decide +kernel
theorem dX7_number_33 : decode cX7_number 33 = .ok (.iadd, 1) := by decide +kernel
theorem dX7_number_34 : decode cX7_number 34 = .ok (.bipush 48, 2) := by decide +kernel
theorem dX7_number_36 : decode cX7_number 36 = .ok (.isub, 1) := by decide +kernel
theorem dX7_number_37 : decode cX7_number 37 = .ok (.istore_n 1, 1) := by decide +kernel
theorem dX7_number_38 : decode cX7_number 38 = .ok (.iinc 2 1, 3) := by decide +kernel
theorem dX7_number_41 : decode cX7_number 41 = .ok (.goto (-34), 3) := by decide +kernel
theorem dX7_number_44 : decode cX7_number 44 = .ok (.iload_n 1, 1) := by decide +kernel
theorem dX7_number_45 : decode cX7_number 45 = .ok (.ireturn, 1) := by decide +kernel
theorem dX8_init_0 : decode cX8_init 0 = .ok (.aload_n 0, 1) := by decide +kernel
theorem dX8_init_1 : decode cX8_init 1 = .ok (.invokespecial 3, 3) := by decide +kernel
theorem dX8_init_4 : decode cX8_init 4 = .ok (.aload_n 0, 1) := by decide +kernel
theorem dX8_init_5 : decode cX8_init 5 = .ok (.bipush 24, 2) := by decide +kernel
theorem dX8_init_7 : decode cX8_init 7 = .ok (.newarray .int, 2) := by decide +kernel
theorem dX8_init_9 : decode cX8_init 9 = .ok (.putfield 9, 3) := by decide +kernel
theorem dX8_init_12 : decode cX8_init 12 = .ok (.aload_n 0, 1) := by decide +kernel
theorem dX8_init_13 : decode cX8_init 13 = .ok (.bipush 8, 2) := by decide +kernel
theorem dX8_init_15 : decode cX8_init 15 = .ok (.newarray .int, 2) := by decide +kernel
theorem dX8_init_17 : decode cX8_init 17 = .ok (.putfield 15, 3) := by decide +kernel
theorem dX8_init_20 : decode cX8_init 20 = .ok (.return_, 1) := by decide +kernel
theorem dX8_begin_0 : decode cX8_begin 0 = .ok (.aload_n 0, 1) := by decide +kernel
theorem dX8_begin_1 : decode cX8_begin 1 = .ok (.aload_n 2, 1) := by decide +kernel
theorem dX8_begin_2 : decode cX8_begin 2 = .ok (.getfield 18, 3) := by decide +kernel
theorem dX8_begin_5 : decode cX8_begin 5 = .ok (.bipush 24, 2) := by decide +kernel
theorem dX8_begin_7 : decode cX8_begin 7 = .ok (.invokestatic 24, 3) := by decide +kernel
theorem dX8_begin_10 : decode cX8_begin 10 = .ok (.putfield 30, 3) := by decide +kernel
theorem dX8_begin_13 : decode cX8_begin 13 = .ok (.iconst 0, 1) := by decide +kernel
theorem dX8_begin_14 : decode cX8_begin 14 = .ok (.istore_n 3, 1) := by decide +kernel
theorem dX8_begin_15 : decode cX8_begin 15 = .ok (.iload_n 3, 1) := by decide +kernel
theorem dX8_begin_16 : decode cX8_begin 16 = .ok (.aload_n 0, 1) := by decide +kernel
theorem dX8_begin_17 : decode cX8_begin 17 = .ok (.getfield 30, 3) := by decide +kernel
theorem dX8_begin_20 : decode cX8_begin 20 = .ok (.if_icmp .ge 20, 3) := by decide +kernel
theorem dX8_begin_23 : decode cX8_begin 23 = .ok (.aload_n 0, 1) := by decide +kernel
theorem dX8_begin_24 : decode cX8_begin 24 = .ok (.getfield 9, 3) := by decide +kernel
theorem dX8_begin_27 : decode cX8_begin 27 = .ok (.iload_n 3, 1) := by decide +kernel
theorem dX8_begin_28 : decode cX8_begin 28 = .ok (.aload_n 2, 1) := by decide +kernel
theorem dX8_begin_29 : decode cX8_begin 29 = .ok (.iload_n 3, 1) := by decide +kernel
theorem dX8_begin_30 : decode cX8_begin 30 = .ok (.invokevirtual 31, 3) := by decide +kernel
theorem dX8_begin_33 : decode cX8_begin 33 = .ok (.iastore, 1) := by decide +kernel
theorem dX8_begin_34 : decode cX8_begin 34 = .ok (.iinc 3 1, 3) := by decide +kernel
theorem dX8_begin_37 : decode cX8_begin 37 = .ok (.goto (-22), 3) := by decide +kernel
theorem dX8_begin_40 : decode cX8_begin 40 = .ok (.aload_n 0, 1) := by decide +kernel
theorem dX8_begin_41 : decode cX8_begin 41 = .ok (.getfield 15, 3) := by decide +kernel
theorem dX8_begin_44 : decode cX8_begin 44 = .ok (.iconst (-1), 1) := by decide +kernel
theorem dX8_begin_45 : decode cX8_begin 45 = .ok (.invokestatic 35, 3) := by decide +kernel
theorem dX8_begin_48 : decode cX8_begin 48 = .ok (.iconst 0, 1) := by decide +kernel
theorem dX8_begin_49 : decode cX8_begin 49 = .ok (.istore_n 3, 1) := by decide +kernel
theorem dX8_begin_50 : decode cX8_begin 50 = .ok (.iload_n 3, 1) := by decide +kernel
theorem dX8_begin_51 : decode cX8_begin 51 = .ok (.aload_n 1, 1) := by decide +kernel
theorem dX8_begin_52 : decode cX8_begin 52 = .ok (.getfield 41, 3) := by decide +kernel
theorem dX8_begin_55 : decode cX8_begin 55 = .ok (.if_icmp .ge 40, 3) := by decide +kernel
theorem dX8_begin_58 : decode cX8_begin 58 = .ok (.aload_n 1, 1) := by decide +kernel
theorem dX8_begin_59 : decode cX8_begin 59 = .ok (.getfield 46, 3) := by decide +kernel
theorem dX8_begin_62 : decode cX8_begin 62 = .ok (.iload_n 3, 1) := by decide +kernel
theorem dX8_begin_63 : decode cX8_begin 63 = .ok (.iaload, 1) := by decide +kernel
theorem dX8_begin_64 : decode cX8_begin 64 = .ok (.iconst 0, 1) := by decide +kernel
theorem dX8_begin_65 : decode cX8_begin 65 = .ok (.bipush 7, 2) := by decide +kernel
theorem dX8_begin_67 : decode cX8_begin 67 = .ok (.invokestatic 49, 3) := by decide +kernel
theorem dX8_begin_70 : decode cX8_begin 70 = .ok (.ifCond .eq 19, 3) := by decide +kernel
theorem dX8_begin_73 : decode cX8_begin 73 = .ok (.aload_n 0, 1) := by decide +kernel
theorem dX8_begin_74 : decode cX8_begin 74 = .ok (.getfield 15, 3) := by decide +kernel
theorem dX8_begin_77 : decode cX8_begin 77 = .ok (.aload_n 1, 1) := by decide +kernel
theorem dX8_begin_78 : decode cX8_begin 78 = .ok (.getfield 46, 3) := by decide +kernel
theorem dX8_begin_81 : decode cX8_begin 81 = .ok (.iload_n 3, 1) := by decide +kernel
theorem dX8_begin_82 : decode cX8_begin 82 = .ok (.iaload, 1) := by decide +kernel
theorem dX8_begin_83 : decode cX8_begin 83 = .ok (.aload_n 2, 1) := by decide +kernel
theorem dX8_begin_84 : decode cX8_begin 84 = .ok (.iload_n 3, 1) := by decide +kernel
theorem dX8_begin_85 : decode cX8_begin 85 = .ok (.invokevirtual 53, 3) := by decide +kernel
theorem dX8_begin_88 : decode cX8_begin 88 = .ok (.iastore, 1) := by decide +kernel
theorem dX8_begin_89 : decode cX8_begin 89 = .ok (.iinc 3 1, 3) := by decide +kernel
theorem dX8_begin_92 : decode cX8_begin 92 = .ok (.goto (-42), 3) := by decide +kernel
theorem dX8_begin_95 : decode cX8_begin 95 = .ok (.aload_n 0, 1) := by decide +kernel
theorem dX8_begin_96 : decode cX8_begin 96 = .ok (.aload_n 1, 1) := by decide +kernel
theorem dX8_begin_97 : decode cX8_begin 97 = .ok (.iconst 2, 1) := by decide +kernel
theorem dX8_begin_98 : decode cX8_begin 98 = .ok (.invokevirtual 56, 3) := by decide +kernel
theorem dX8_begin_101 : decode cX8_begin 101 = .ok (.putfield 60, 3) := by decide +kernel
theorem dX8_begin_104 : decode cX8_begin 104 = .ok (.return_, 1) := by decide +kernel
theorem dX8_pass_0 : decode cX8_pass 0 = .ok (.iconst 0, 1) := by decide +kernel
theorem dX8_pass_1 : decode cX8_pass 1 = .ok (.istore_n 2, 1) := by decide +kernel
theorem dX8_pass_2 : decode cX8_pass 2 = .ok (.iload_n 2, 1) := by decide +kernel
theorem dX8_pass_3 : decode cX8_pass 3 = .ok (.bipush 8, 2) := by decide +kernel
theorem dX8_pass_5 : decode cX8_pass 5 = .ok (.if_icmp .ge 66, 3) := by decide +kernel
theorem dX8_pass_8 : decode cX8_pass 8 = .ok (.aload_n 0, 1) := by decide +kernel
theorem dX8_pass_9 : decode cX8_pass 9 = .ok (.getfield 15, 3) := by decide +kernel
theorem dX8_pass_12 : decode cX8_pass 12 = .ok (.iload_n 2, 1) := by decide +kernel
theorem dX8_pass_13 : decode cX8_pass 13 = .ok (.iaload, 1) := by decide +kernel
theorem dX8_pass_14 : decode cX8_pass 14 = .ok (.istore_n 3, 1) := by decide +kernel
theorem dX8_pass_15 : decode cX8_pass 15 = .ok (.iload_n 3, 1) := by decide +kernel
theorem dX8_pass_16 : decode cX8_pass 16 = .ok (.iconst 0, 1) := by decide +kernel
theorem dX8_pass_17 : decode cX8_pass 17 = .ok (.aload_n 0, 1) := by decide +kernel
theorem dX8_pass_18 : decode cX8_pass 18 = .ok (.getfield 30, 3) := by decide +kernel
theorem dX8_pass_21 : decode cX8_pass 21 = .ok (.iconst 1, 1) := by decide +kernel
theorem dX8_pass_22 : decode cX8_pass 22 = .ok (.isub, 1) := by decide +kernel
theorem dX8_pass_23 : decode cX8_pass 23 = .ok (.invokestatic 49, 3) := by decide +kernel
theorem dX8_pass_26 : decode cX8_pass 26 = .ok (.ifCond .eq 39, 3) := by decide +kernel
theorem dX8_pass_29 : decode cX8_pass 29 = .ok (.aload_n 0, 1) := by decide +kernel
theorem dX8_pass_30 : decode cX8_pass 30 = .ok (.getfield 9, 3) := by decide +kernel
theorem dX8_pass_33 : decode cX8_pass 33 = .ok (.iload_n 3, 1) := by decide +kernel
theorem dX8_pass_34 : decode cX8_pass 34 = .ok (.dup2, 1) := by decide +kernel
theorem dX8_pass_35 : decode cX8_pass 35 = .ok (.iaload, 1) := by decide +kernel
theorem dX8_pass_36 : decode cX8_pass 36 = .ok (.aload_n 0, 1) := by decide +kernel
theorem dX8_pass_37 : decode cX8_pass 37 = .ok (.getfield 60, 3) := by decide +kernel
theorem dX8_pass_40 : decode cX8_pass 40 = .ok (.ifnonnull 7, 3) := by decide +kernel
theorem dX8_pass_43 : decode cX8_pass 43 = .ok (.iconst 1, 1) := by decide +kernel
theorem dX8_pass_44 : decode cX8_pass 44 = .ok (.goto 19, 3) := by decide +kernel
theorem dX8_pass_47 : decode cX8_pass 47 = .ok (.aload_n 0, 1) := by decide +kernel
theorem dX8_pass_48 : decode cX8_pass 48 = .ok (.getfield 60, 3) := by decide +kernel
theorem dX8_pass_51 : decode cX8_pass 51 = .ok (.iload_n 2, 1) := by decide +kernel
theorem dX8_pass_52 : decode cX8_pass 52 = .ok (.iload_n 1, 1) := by decide +kernel
theorem dX8_pass_53 : decode cX8_pass 53 = .ok (.iconst 0, 1) := by decide +kernel
theorem dX8_pass_54 : decode cX8_pass 54 = .ok (.invokevirtual 64, 3) := by decide +kernel
theorem dX8_pass_57 : decode cX8_pass 57 = .ok (.iconst 0, 1) := by decide +kernel
theorem dX8_pass_58 : decode cX8_pass 58 = .ok (.bipush 99, 2) := by decide +kernel
theorem dX8_pass_60 : decode cX8_pass 60 = .ok (.invokestatic 70, 3) := by decide +kernel
theorem dX8_pass_63 : decode cX8_pass 63 = .ok (.iadd, 1) := by decide +kernel
theorem dX8_pass_64 : decode cX8_pass 64 = .ok (.iastore, 1) := by decide +kernel
theorem dX8_pass_65 : decode cX8_pass 65 = .ok (.iinc 2 1, 3) := by decide +kernel
theorem dX8_pass_68 : decode cX8_pass 68 = .ok (.goto (-66), 3) := by decide +kernel
theorem dX8_pass_71 : decode cX8_pass 71 = .ok (.return_, 1) := by decide +kernel
theorem dX8_thickest_0 : decode cX8_thickest 0 = .ok (.iconst 0, 1) := by decide +kernel
theorem dX8_thickest_1 : decode cX8_thickest 1 = .ok (.istore_n 1, 1) := by decide +kernel
theorem dX8_thickest_2 : decode cX8_thickest 2 = .ok (.iconst 1, 1) := by decide +kernel
theorem dX8_thickest_3 : decode cX8_thickest 3 = .ok (.istore_n 2, 1) := by decide +kernel
theorem dX8_thickest_4 : decode cX8_thickest 4 = .ok (.iload_n 2, 1) := by decide +kernel
theorem dX8_thickest_5 : decode cX8_thickest 5 = .ok (.aload_n 0, 1) := by decide +kernel
theorem dX8_thickest_6 : decode cX8_thickest 6 = .ok (.getfield 30, 3) := by decide +kernel
theorem dX8_thickest_9 : decode cX8_thickest 9 = .ok (.if_icmp .ge 26, 3) := by decide +kernel
theorem dX8_thickest_12 : decode cX8_thickest 12 = .ok (.aload_n 0, 1) := by decide +kernel
theorem dX8_thickest_13 : decode cX8_thickest 13 = .ok (.getfield 9, 3) := by decide +kernel
theorem dX8_thickest_16 : decode cX8_thickest 16 = .ok (.iload_n 2, 1) := by decide +kernel
theorem dX8_thickest_17 : decode cX8_thickest 17 = .ok (.iaload, 1) := by decide +kernel
theorem dX8_thickest_18 : decode cX8_thickest 18 = .ok (.aload_n 0, 1) := by decide +kernel
theorem dX8_thickest_19 : decode cX8_thickest 19 = .ok (.getfield 9, 3) := by decide +kernel
theorem dX8_thickest_22 : decode cX8_thickest 22 = .ok (.iload_n 1, 1) := by decide +kernel
theorem dX8_thickest_23 : decode cX8_thickest 23 = .ok (.iaload, 1) := by decide +kernel
theorem dX8_thickest_24 : decode cX8_thickest 24 = .ok (.if_icmp .le 5, 3) := by decide +kernel
theorem dX8_thickest_27 : decode cX8_thickest 27 = .ok (.iload_n 2, 1) := by decide +kernel
theorem dX8_thickest_28 : decode cX8_thickest 28 = .ok (.istore_n 1, 1) := by decide +kernel
theorem dX8_thickest_29 : decode cX8_thickest 29 = .ok (.iinc 2 1, 3) := by decide +kernel
theorem dX8_thickest_32 : decode cX8_thickest 32 = .ok (.goto (-28), 3) := by decide +kernel
theorem dX8_thickest_35 : decode cX8_thickest 35 = .ok (.iload_n 1, 1) := by decide +kernel
theorem dX8_thickest_36 : decode cX8_thickest 36 = .ok (.ireturn, 1) := by decide +kernel
theorem dX8_thickness_0 : decode cX8_thickness 0 = .ok (.aload_n 0, 1) := by decide +kernel
theorem dX8_thickness_1 : decode cX8_thickness 1 = .ok (.getfield 9, 3) := by decide +kernel
theorem dX8_thickness_4 : decode cX8_thickness 4 = .ok (.aload_n 0, 1) := by decide +kernel
theorem dX8_thickness_5 : decode cX8_thickness 5 = .ok (.invokevirtual 73, 3) := by decide +kernel
theorem dX8_thickness_8 : decode cX8_thickness 8 = .ok (.iaload, 1) := by decide +kernel
theorem dX8_thickness_9 : decode cX8_thickness 9 = .ok (.ireturn, 1) := by decide +kernel
theorem dX9_init_0 : decode cX9_init 0 = .ok (.aload_n 0, 1) := by decide +kernel
theorem dX9_init_1 : decode cX9_init 1 = .ok (.invokespecial 1, 3) := by decide +kernel
theorem dX9_init_4 : decode cX9_init 4 = .ok (.aload_n 0, 1) := by decide +kernel
theorem dX9_init_5 : decode cX9_init 5 = .ok (.new 7, 3) := by decide +kernel
theorem dX9_init_8 : decode cX9_init 8 = .ok (.dup, 1) := by decide +kernel
theorem dX9_init_9 : decode cX9_init 9 = .ok (.invokespecial 9, 3) := by decide +kernel
theorem dX9_init_12 : decode cX9_init 12 = .ok (.putfield 10, 3) := by decide +kernel
theorem dX9_init_15 : decode cX9_init 15 = .ok (.aload_n 0, 1) := by decide +kernel
theorem dX9_init_16 : decode cX9_init 16 = .ok (.new 7, 3) := by decide +kernel
theorem dX9_init_19 : decode cX9_init 19 = .ok (.dup, 1) := by decide +kernel
theorem dX9_init_20 : decode cX9_init 20 = .ok (.invokespecial 9, 3) := by decide +kernel
theorem dX9_init_23 : decode cX9_init 23 = .ok (.putfield 16, 3) := by decide +kernel
theorem dX9_init_26 : decode cX9_init 26 = .ok (.aload_n 0, 1) := by decide +kernel
theorem dX9_init_27 : decode cX9_init 27 = .ok (.new 19, 3) := by decide +kernel
theorem dX9_init_30 : decode cX9_init 30 = .ok (.dup, 1) := by decide +kernel
theorem dX9_init_31 : decode cX9_init 31 = .ok (.invokespecial 21, 3) := by decide +kernel
theorem dX9_init_34 : decode cX9_init 34 = .ok (.putfield 22, 3) := by decide +kernel
theorem dX9_init_37 : decode cX9_init 37 = .ok (.aload_n 0, 1) := by decide +kernel
theorem dX9_init_38 : decode cX9_init 38 = .ok (.new 26, 3) := by decide +kernel
theorem dX9_init_41 : decode cX9_init 41 = .ok (.dup, 1) := by decide +kernel
theorem dX9_init_42 : decode cX9_init 42 = .ok (.invokespecial 28, 3) := by decide +kernel
theorem dX9_init_45 : decode cX9_init 45 = .ok (.putfield 29, 3) := by decide +kernel
theorem dX9_init_48 : decode cX9_init 48 = .ok (.aload_n 0, 1) := by decide +kernel
theorem dX9_init_49 : decode cX9_init 49 = .ok (.new 33, 3) := by decide +kernel
theorem dX9_init_52 : decode cX9_init 52 = .ok (.dup, 1) := by decide +kernel
theorem dX9_init_53 : decode cX9_init 53 = .ok (.invokespecial 35, 3) := by decide +kernel
theorem dX9_init_56 : decode cX9_init 56 = .ok (.putfield 36, 3) := by decide +kernel
theorem dX9_init_59 : decode cX9_init 59 = .ok (.aload_n 0, 1) := by decide +kernel
theorem dX9_init_60 : decode cX9_init 60 = .ok (.aload_n 0, 1) := by decide +kernel
theorem dX9_init_61 : decode cX9_init 61 = .ok (.getfield 36, 3) := by decide +kernel
theorem dX9_init_64 : decode cX9_init 64 = .ok (.getfield 40, 3) := by decide +kernel
theorem dX9_init_67 : decode cX9_init 67 = .ok (.putfield 44, 3) := by decide +kernel
theorem dX9_init_70 : decode cX9_init 70 = .ok (.aload_n 0, 1) := by decide +kernel
theorem dX9_init_71 : decode cX9_init 71 = .ok (.iconst 4, 1) := by decide +kernel
theorem dX9_init_72 : decode cX9_init 72 = .ok (.anewarray 45, 3) := by decide +kernel
theorem dX9_init_75 : decode cX9_init 75 = .ok (.putfield 47, 3) := by decide +kernel
theorem dX9_init_78 : decode cX9_init 78 = .ok (.aload_n 0, 1) := by decide +kernel
theorem dX9_init_79 : decode cX9_init 79 = .ok (.iconst 5, 1) := by decide +kernel
theorem dX9_init_80 : decode cX9_init 80 = .ok (.anewarray 51, 3) := by decide +kernel
theorem dX9_init_83 : decode cX9_init 83 = .ok (.putfield 53, 3) := by decide +kernel
theorem dX9_init_86 : decode cX9_init 86 = .ok (.aload_n 0, 1) := by decide +kernel
theorem dX9_init_87 : decode cX9_init 87 = .ok (.bipush 60, 2) := by decide +kernel
theorem dX9_init_89 : decode cX9_init 89 = .ok (.newarray .int, 2) := by decide +kernel
theorem dX9_init_91 : decode cX9_init 91 = .ok (.putfield 57, 3) := by decide +kernel
theorem dX9_init_94 : decode cX9_init 94 = .ok (.aload_n 0, 1) := by decide +kernel
theorem dX9_init_95 : decode cX9_init 95 = .ok (.bipush 24, 2) := by decide +kernel
theorem dX9_init_97 : decode cX9_init 97 = .ok (.newarray .int, 2) := by decide +kernel
theorem dX9_init_99 : decode cX9_init 99 = .ok (.putfield 61, 3) := by decide +kernel
theorem dX9_init_102 : decode cX9_init 102 = .ok (.aload_n 0, 1) := by decide +kernel
theorem dX9_init_103 : decode cX9_init 103 = .ok (.iconst 3, 1) := by decide +kernel
theorem dX9_init_104 : decode cX9_init 104 = .ok (.newarray .int, 2) := by decide +kernel
theorem dX9_init_106 : decode cX9_init 106 = .ok (.putfield 64, 3) := by decide +kernel
theorem dX9_init_109 : decode cX9_init 109 = .ok (.aload_n 0, 1) := by decide +kernel
theorem dX9_init_110 : decode cX9_init 110 = .ok (.iconst 3, 1) := by decide +kernel
theorem dX9_init_111 : decode cX9_init 111 = .ok (.newarray .int, 2) := by decide +kernel
theorem dX9_init_113 : decode cX9_init 113 = .ok (.putfield 67, 3) := by decide +kernel
theorem dX9_init_116 : decode cX9_init 116 = .ok (.aload_n 0, 1) := by decide +kernel
theorem dX9_init_117 : decode cX9_init 117 = .ok (.bipush 24, 2) := by decide +kernel
theorem dX9_init_119 : decode cX9_init 119 = .ok (.newarray .int, 2) := by decide +kernel
theorem dX9_init_121 : decode cX9_init 121 = .ok (.putfield 70, 3) := by decide +kernel
theorem dX9_init_124 : decode cX9_init 124 = .ok (.iconst 0, 1) := by decide +kernel
theorem dX9_init_125 : decode cX9_init 125 = .ok (.istore_n 1, 1) := by decide +kernel
theorem dX9_init_126 : decode cX9_init 126 = .ok (.iload_n 1, 1) := by decide +kernel
theorem dX9_init_127 : decode cX9_init 127 = .ok (.iconst 4, 1) := by decide +kernel
theorem dX9_init_128 : decode cX9_init 128 = .ok (.if_icmp .ge 22, 3) := by decide +kernel
theorem dX9_init_131 : decode cX9_init 131 = .ok (.aload_n 0, 1) := by decide +kernel
theorem dX9_init_132 : decode cX9_init 132 = .ok (.getfield 47, 3) := by decide +kernel
theorem dX9_init_135 : decode cX9_init 135 = .ok (.iload_n 1, 1) := by decide +kernel
theorem dX9_init_136 : decode cX9_init 136 = .ok (.new 45, 3) := by decide +kernel
theorem dX9_init_139 : decode cX9_init 139 = .ok (.dup, 1) := by decide +kernel
theorem dX9_init_140 : decode cX9_init 140 = .ok (.invokespecial 73, 3) := by decide +kernel
theorem dX9_init_143 : decode cX9_init 143 = .ok (.aastore, 1) := by decide +kernel
theorem dX9_init_144 : decode cX9_init 144 = .ok (.iinc 1 1, 3) := by decide +kernel
theorem dX9_init_147 : decode cX9_init 147 = .ok (.goto (-21), 3) := by decide +kernel
theorem dX9_init_150 : decode cX9_init 150 = .ok (.iconst 0, 1) := by decide +kernel
theorem dX9_init_151 : decode cX9_init 151 = .ok (.istore_n 1, 1) := by decide +kernel
theorem dX9_init_152 : decode cX9_init 152 = .ok (.iload_n 1, 1) := by decide +kernel
theorem dX9_init_153 : decode cX9_init 153 = .ok (.iconst 5, 1) := by decide +kernel
theorem dX9_init_154 : decode cX9_init 154 = .ok (.if_icmp .ge 22, 3) := by decide +kernel
theorem dX9_init_157 : decode cX9_init 157 = .ok (.aload_n 0, 1) := by decide +kernel
theorem dX9_init_158 : decode cX9_init 158 = .ok (.getfield 53, 3) := by decide +kernel
theorem dX9_init_161 : decode cX9_init 161 = .ok (.iload_n 1, 1) := by decide +kernel
theorem dX9_init_162 : decode cX9_init 162 = .ok (.new 51, 3) := by decide +kernel
theorem dX9_init_165 : decode cX9_init 165 = .ok (.dup, 1) := by decide +kernel
theorem dX9_init_166 : decode cX9_init 166 = .ok (.invokespecial 74, 3) := by decide +kernel
theorem dX9_init_169 : decode cX9_init 169 = .ok (.aastore, 1) := by decide +kernel
theorem dX9_init_170 : decode cX9_init 170 = .ok (.iinc 1 1, 3) := by decide +kernel
theorem dX9_init_173 : decode cX9_init 173 = .ok (.goto (-21), 3) := by decide +kernel
theorem dX9_init_176 : decode cX9_init 176 = .ok (.return_, 1) := by decide +kernel
theorem dX9_book_0 : decode cX9_book 0 = .ok (.iload_n 1, 1) := by decide +kernel
theorem dX9_book_1 : decode cX9_book 1 = .ok (.invokestatic 75, 3) := by decide +kernel
theorem dX9_book_4 : decode cX9_book 4 = .ok (.ifCond .eq 13, 3) := by decide +kernel
theorem dX9_book_7 : decode cX9_book 7 = .ok (.iload_n 2, 1) := by decide +kernel
theorem dX9_book_8 : decode cX9_book 8 = .ok (.iconst 0, 1) := by decide +kernel
theorem dX9_book_9 : decode cX9_book 9 = .ok (.bipush 7, 2) := by decide +kernel
theorem dX9_book_11 : decode cX9_book 11 = .ok (.invokestatic 79, 3) := by decide +kernel
theorem dX9_book_14 : decode cX9_book 14 = .ok (.ifCond .ne 6, 3) := by decide +kernel
theorem dX9_book_17 : decode cX9_book 17 = .ok (.ldc 83, 2) := by decide +kernel
theorem dX9_book_19 : decode cX9_book 19 = .ok (.ireturn, 1) := by decide +kernel
theorem dX9_book_20 : decode cX9_book 20 = .ok (.aload_n 0, 1) := by decide +kernel
theorem dX9_book_21 : decode cX9_book 21 = .ok (.getfield 10, 3) := by decide +kernel
theorem dX9_book_24 : decode cX9_book 24 = .ok (.getfield 84, 3) := by decide +kernel
theorem dX9_book_27 : decode cX9_book 27 = .ok (.bipush 24, 2) := by decide +kernel
theorem dX9_book_29 : decode cX9_book 29 = .ok (.if_icmp .lt 6, 3) := by decide +kernel
theorem dX9_book_32 : decode cX9_book 32 = .ok (.ldc 88, 2) := by decide +kernel
theorem dX9_book_34 : decode cX9_book 34 = .ok (.ireturn, 1) := by decide +kernel
theorem dX9_book_35 : decode cX9_book 35 = .ok (.aload_n 0, 1) := by decide +kernel
theorem dX9_book_36 : decode cX9_book 36 = .ok (.getfield 10, 3) := by decide +kernel
theorem dX9_book_39 : decode cX9_book 39 = .ok (.iload_n 1, 1) := by decide +kernel
theorem dX9_book_40 : decode cX9_book 40 = .ok (.bipush 100, 2) := by decide +kernel
theorem dX9_book_42 : decode cX9_book 42 = .ok (.idiv, 1) := by decide +kernel
theorem dX9_book_43 : decode cX9_book 43 = .ok (.iload_n 1, 1) := by decide +kernel
theorem dX9_book_44 : decode cX9_book 44 = .ok (.bipush 100, 2) := by decide +kernel
theorem dX9_book_46 : decode cX9_book 46 = .ok (.irem, 1) := by decide +kernel
theorem dX9_book_47 : decode cX9_book 47 = .ok (.iload_n 2, 1) := by decide +kernel
theorem dX9_book_48 : decode cX9_book 48 = .ok (.invokevirtual 89, 3) := by decide +kernel
theorem dX9_book_51 : decode cX9_book 51 = .ok (.ireturn, 1) := by decide +kernel
theorem dX9_bookTold_0 : decode cX9_bookTold 0 = .ok (.aload_n 0, 1) := by decide +kernel
theorem dX9_bookTold_1 : decode cX9_bookTold 1 = .ok (.getfield 10, 3) := by decide +kernel
theorem dX9_bookTold_4 : decode cX9_bookTold 4 = .ok (.iload_n 1, 1) := by decide +kernel
theorem dX9_bookTold_5 : decode cX9_bookTold 5 = .ok (.invokevirtual 93, 3) := by decide +kernel
theorem dX9_bookTold_8 : decode cX9_bookTold 8 = .ok (.ifCond .ne 6, 3) := by decide +kernel
theorem dX9_bookTold_11 : decode cX9_bookTold 11 = .ok (.ldc 83, 2) := by decide +kernel
theorem dX9_bookTold_13 : decode cX9_bookTold 13 = .ok (.ireturn, 1) := by decide +kernel
theorem dX9_bookTold_14 : decode cX9_bookTold 14 = .ok (.iload_n 2, 1) := by decide +kernel
theorem dX9_bookTold_15 : decode cX9_bookTold 15 = .ok (.tableswitch 112 0 4 #[33, 43, 53, 63, 81], 33) := by decide +kernel
theorem dX9_bookTold_48 : decode cX9_bookTold 48 = .ok (.aload_n 0, 1) := by decide +kernel
theorem dX9_bookTold_49 : decode cX9_bookTold 49 = .ok (.getfield 10, 3) := by decide +kernel
theorem dX9_bookTold_52 : decode cX9_bookTold 52 = .ok (.getfield 96, 3) := by decide +kernel
theorem dX9_bookTold_55 : decode cX9_bookTold 55 = .ok (.iload_n 1, 1) := by decide +kernel
theorem dX9_bookTold_56 : decode cX9_bookTold 56 = .ok (.iaload, 1) := by decide +kernel
theorem dX9_bookTold_57 : decode cX9_bookTold 57 = .ok (.ireturn, 1) := by decide +kernel
theorem dX9_bookTold_58 : decode cX9_bookTold 58 = .ok (.aload_n 0, 1) := by decide +kernel
theorem dX9_bookTold_59 : decode cX9_bookTold 59 = .ok (.getfield 10, 3) := by decide +kernel
theorem dX9_bookTold_62 : decode cX9_bookTold 62 = .ok (.getfield 99, 3) := by decide +kernel
theorem dX9_bookTold_65 : decode cX9_bookTold 65 = .ok (.iload_n 1, 1) := by decide +kernel
theorem dX9_bookTold_66 : decode cX9_bookTold 66 = .ok (.iaload, 1) := by decide +kernel
theorem dX9_bookTold_67 : decode cX9_bookTold 67 = .ok (.ireturn, 1) := by decide +kernel
theorem dX9_bookTold_68 : decode cX9_bookTold 68 = .ok (.aload_n 0, 1) := by decide +kernel
theorem dX9_bookTold_69 : decode cX9_bookTold 69 = .ok (.getfield 10, 3) := by decide +kernel
theorem dX9_bookTold_72 : decode cX9_bookTold 72 = .ok (.getfield 102, 3) := by decide +kernel
theorem dX9_bookTold_75 : decode cX9_bookTold 75 = .ok (.iload_n 1, 1) := by decide +kernel
theorem dX9_bookTold_76 : decode cX9_bookTold 76 = .ok (.iaload, 1) := by decide +kernel
theorem dX9_bookTold_77 : decode cX9_bookTold 77 = .ok (.ireturn, 1) := by decide +kernel
theorem dX9_bookTold_78 : decode cX9_bookTold 78 = .ok (.aload_n 0, 1) := by decide +kernel
theorem dX9_bookTold_79 : decode cX9_bookTold 79 = .ok (.getfield 10, 3) := by decide +kernel
theorem dX9_bookTold_82 : decode cX9_bookTold 82 = .ok (.getfield 105, 3) := by decide +kernel
theorem dX9_bookTold_85 : decode cX9_bookTold 85 = .ok (.iload_n 1, 1) := by decide +kernel
theorem dX9_bookTold_86 : decode cX9_bookTold 86 = .ok (.baload, 1) := by decide +kernel
theorem dX9_bookTold_87 : decode cX9_bookTold 87 = .ok (.ifCond .eq 7, 3) := by decide +kernel
theorem dX9_bookTold_90 : decode cX9_bookTold 90 = .ok (.iconst 1, 1) := by decide +kernel
theorem dX9_bookTold_91 : decode cX9_bookTold 91 = .ok (.goto 4, 3) := by decide +kernel
theorem dX9_bookTold_94 : decode cX9_bookTold 94 = .ok (.iconst 0, 1) := by decide +kernel
theorem dX9_bookTold_95 : decode cX9_bookTold 95 = .ok (.ireturn, 1) := by decide +kernel
theorem dX9_bookTold_96 : decode cX9_bookTold 96 = .ok (.aload_n 0, 1) := by decide +kernel
theorem dX9_bookTold_97 : decode cX9_bookTold 97 = .ok (.getfield 22, 3) := by decide +kernel
theorem dX9_bookTold_100 : decode cX9_bookTold 100 = .ok (.aload_n 0, 1) := by decide +kernel
theorem dX9_bookTold_101 : decode cX9_bookTold 101 = .ok (.getfield 10, 3) := by decide +kernel
theorem dX9_bookTold_104 : decode cX9_bookTold 104 = .ok (.invokevirtual 109, 3) := by decide +kernel
theorem dX9_bookTold_107 : decode cX9_bookTold 107 = .ok (.invokevirtual 113, 3) := by decide +kernel
theorem dX9_bookTold_110 : decode cX9_bookTold 110 = .ok (.ifCond .eq 14, 3) := by decide +kernel
theorem dX9_bookTold_113 : decode cX9_bookTold 113 = .ok (.aload_n 0, 1) := by decide +kernel
theorem dX9_bookTold_114 : decode cX9_bookTold 114 = .ok (.getfield 22, 3) := by decide +kernel
theorem dX9_bookTold_117 : decode cX9_bookTold 117 = .ok (.iload_n 1, 1) := by decide +kernel
theorem dX9_bookTold_118 : decode cX9_bookTold 118 = .ok (.invokevirtual 117, 3) := by decide +kernel
theorem dX9_bookTold_121 : decode cX9_bookTold 121 = .ok (.goto 5, 3) := by decide +kernel
theorem dX9_bookTold_124 : decode cX9_bookTold 124 = .ok (.ldc 121, 2) := by decide +kernel
theorem dX9_bookTold_126 : decode cX9_bookTold 126 = .ok (.ireturn, 1) := by decide +kernel
theorem dX9_bookTold_127 : decode cX9_bookTold 127 = .ok (.ldc 83, 2) := by decide +kernel
theorem dX9_bookTold_129 : decode cX9_bookTold 129 = .ok (.ireturn, 1) := by decide +kernel
theorem dX9_tie_0 : decode cX9_tie 0 = .ok (.aload_n 0, 1) := by decide +kernel
theorem dX9_tie_1 : decode cX9_tie 1 = .ok (.getfield 10, 3) := by decide +kernel
theorem dX9_tie_4 : decode cX9_tie 4 = .ok (.iload_n 1, 1) := by decide +kernel
theorem dX9_tie_5 : decode cX9_tie 5 = .ok (.invokevirtual 93, 3) := by decide +kernel
theorem dX9_tie_8 : decode cX9_tie 8 = .ok (.ifCond .ne 6, 3) := by decide +kernel
theorem dX9_tie_11 : decode cX9_tie 11 = .ok (.ldc 83, 2) := by decide +kernel
theorem dX9_tie_13 : decode cX9_tie 13 = .ok (.ireturn, 1) := by decide +kernel
theorem dX9_tie_14 : decode cX9_tie 14 = .ok (.aload_n 0, 1) := by decide +kernel
theorem dX9_tie_15 : decode cX9_tie 15 = .ok (.getfield 10, 3) := by decide +kernel
theorem dX9_tie_18 : decode cX9_tie 18 = .ok (.getfield 105, 3) := by decide +kernel
theorem dX9_tie_21 : decode cX9_tie 21 = .ok (.iload_n 1, 1) := by decide +kernel
theorem dX9_tie_22 : decode cX9_tie 22 = .ok (.baload, 1) := by decide +kernel
theorem dX9_tie_23 : decode cX9_tie 23 = .ok (.iload_n 2, 1) := by decide +kernel
theorem dX9_tie_24 : decode cX9_tie 24 = .ok (.if_icmp .eq 7, 3) := by decide +kernel
theorem dX9_tie_27 : decode cX9_tie 27 = .ok (.iconst 1, 1) := by decide +kernel
theorem dX9_tie_28 : decode cX9_tie 28 = .ok (.goto 4, 3) := by decide +kernel
theorem dX9_tie_31 : decode cX9_tie 31 = .ok (.iconst 0, 1) := by decide +kernel
theorem dX9_tie_32 : decode cX9_tie 32 = .ok (.istore_n 3, 1) := by decide +kernel
theorem dX9_tie_33 : decode cX9_tie 33 = .ok (.aload_n 0, 1) := by decide +kernel
theorem dX9_tie_34 : decode cX9_tie 34 = .ok (.getfield 10, 3) := by decide +kernel
theorem dX9_tie_37 : decode cX9_tie 37 = .ok (.getfield 105, 3) := by decide +kernel
theorem dX9_tie_40 : decode cX9_tie 40 = .ok (.iload_n 1, 1) := by decide +kernel
theorem dX9_tie_41 : decode cX9_tie 41 = .ok (.iload_n 2, 1) := by decide +kernel
theorem dX9_tie_42 : decode cX9_tie 42 = .ok (.bastore, 1) := by decide +kernel
theorem dX9_tie_43 : decode cX9_tie 43 = .ok (.iload_n 3, 1) := by decide +kernel
theorem dX9_tie_44 : decode cX9_tie 44 = .ok (.ifCond .eq 7, 3) := by decide +kernel
theorem dX9_tie_47 : decode cX9_tie 47 = .ok (.iconst 1, 1) := by decide +kernel
theorem dX9_tie_48 : decode cX9_tie 48 = .ok (.goto 4, 3) := by decide +kernel
theorem dX9_tie_51 : decode cX9_tie 51 = .ok (.iconst 0, 1) := by decide +kernel
theorem dX9_tie_52 : decode cX9_tie 52 = .ok (.ireturn, 1) := by decide +kernel
theorem dX9_deal_0 : decode cX9_deal 0 = .ok (.iload_n 1, 1) := by decide +kernel
theorem dX9_deal_1 : decode cX9_deal 1 = .ok (.iconst 1, 1) := by decide +kernel
theorem dX9_deal_2 : decode cX9_deal 2 = .ok (.bipush 24, 2) := by decide +kernel
theorem dX9_deal_4 : decode cX9_deal 4 = .ok (.invokestatic 79, 3) := by decide +kernel
theorem dX9_deal_7 : decode cX9_deal 7 = .ok (.ifCond .ne 6, 3) := by decide +kernel
theorem dX9_deal_10 : decode cX9_deal 10 = .ok (.ldc 83, 2) := by decide +kernel
theorem dX9_deal_12 : decode cX9_deal 12 = .ok (.ireturn, 1) := by decide +kernel
theorem dX9_deal_13 : decode cX9_deal 13 = .ok (.iload_n 1, 1) := by decide +kernel
theorem dX9_deal_14 : decode cX9_deal 14 = .ok (.bipush 24, 2) := by decide +kernel
theorem dX9_deal_16 : decode cX9_deal 16 = .ok (.aload_n 0, 1) := by decide +kernel
theorem dX9_deal_17 : decode cX9_deal 17 = .ok (.getfield 10, 3) := by decide +kernel
theorem dX9_deal_20 : decode cX9_deal 20 = .ok (.getfield 84, 3) := by decide +kernel
theorem dX9_deal_23 : decode cX9_deal 23 = .ok (.isub, 1) := by decide +kernel
theorem dX9_deal_24 : decode cX9_deal 24 = .ok (.invokestatic 122, 3) := by decide +kernel
theorem dX9_deal_27 : decode cX9_deal 27 = .ok (.istore_n 2, 1) := by decide +kernel
theorem dX9_deal_28 : decode cX9_deal 28 = .ok (.iconst 0, 1) := by decide +kernel
theorem dX9_deal_29 : decode cX9_deal 29 = .ok (.istore_n 3, 1) := by decide +kernel
theorem dX9_deal_30 : decode cX9_deal 30 = .ok (.iload_n 3, 1) := by decide +kernel
theorem dX9_deal_31 : decode cX9_deal 31 = .ok (.iload_n 2, 1) := by decide +kernel
theorem dX9_deal_32 : decode cX9_deal 32 = .ok (.if_icmp .ge 64, 3) := by decide +kernel
theorem dX9_deal_35 : decode cX9_deal 35 = .ok (.bipush 20, 2) := by decide +kernel
theorem dX9_deal_37 : decode cX9_deal 37 = .ok (.aload_n 0, 1) := by decide +kernel
theorem dX9_deal_38 : decode cX9_deal 38 = .ok (.getfield 10, 3) := by decide +kernel
theorem dX9_deal_41 : decode cX9_deal 41 = .ok (.invokevirtual 128, 3) := by decide +kernel
theorem dX9_deal_44 : decode cX9_deal 44 = .ok (.bipush 30, 2) := by decide +kernel
theorem dX9_deal_46 : decode cX9_deal 46 = .ok (.irem, 1) := by decide +kernel
theorem dX9_deal_47 : decode cX9_deal 47 = .ok (.iadd, 1) := by decide +kernel
theorem dX9_deal_48 : decode cX9_deal 48 = .ok (.istore 4, 2) := by decide +kernel
theorem dX9_deal_50 : decode cX9_deal 50 = .ok (.iconst 1, 1) := by decide +kernel
theorem dX9_deal_51 : decode cX9_deal 51 = .ok (.aload_n 0, 1) := by decide +kernel
theorem dX9_deal_52 : decode cX9_deal 52 = .ok (.getfield 10, 3) := by decide +kernel
theorem dX9_deal_55 : decode cX9_deal 55 = .ok (.invokevirtual 128, 3) := by decide +kernel
theorem dX9_deal_58 : decode cX9_deal 58 = .ok (.bipush 20, 2) := by decide +kernel
theorem dX9_deal_60 : decode cX9_deal 60 = .ok (.irem, 1) := by decide +kernel
theorem dX9_deal_61 : decode cX9_deal 61 = .ok (.iadd, 1) := by decide +kernel
theorem dX9_deal_62 : decode cX9_deal 62 = .ok (.istore 5, 2) := by decide +kernel
theorem dX9_deal_64 : decode cX9_deal 64 = .ok (.aload_n 0, 1) := by decide +kernel
theorem dX9_deal_65 : decode cX9_deal 65 = .ok (.getfield 10, 3) := by decide +kernel
theorem dX9_deal_68 : decode cX9_deal 68 = .ok (.invokevirtual 128, 3) := by decide +kernel
theorem dX9_deal_71 : decode cX9_deal 71 = .ok (.bipush 8, 2) := by decide +kernel
theorem dX9_deal_73 : decode cX9_deal 73 = .ok (.irem, 1) := by decide +kernel
theorem dX9_deal_74 : decode cX9_deal 74 = .ok (.istore 6, 2) := by decide +kernel
theorem dX9_deal_76 : decode cX9_deal 76 = .ok (.aload_n 0, 1) := by decide +kernel
theorem dX9_deal_77 : decode cX9_deal 77 = .ok (.getfield 10, 3) := by decide +kernel
theorem dX9_deal_80 : decode cX9_deal 80 = .ok (.iload 4, 2) := by decide +kernel
theorem dX9_deal_82 : decode cX9_deal 82 = .ok (.iload 5, 2) := by decide +kernel
theorem dX9_deal_84 : decode cX9_deal 84 = .ok (.iload 6, 2) := by decide +kernel
theorem dX9_deal_86 : decode cX9_deal 86 = .ok (.invokevirtual 89, 3) := by decide +kernel
theorem dX9_deal_89 : decode cX9_deal 89 = .ok (.pop, 1) := by decide +kernel
theorem dX9_deal_90 : decode cX9_deal 90 = .ok (.iinc 3 1, 3) := by decide +kernel
theorem dX9_deal_93 : decode cX9_deal 93 = .ok (.goto (-63), 3) := by decide +kernel
theorem dX9_deal_96 : decode cX9_deal 96 = .ok (.iload_n 2, 1) := by decide +kernel
theorem dX9_deal_97 : decode cX9_deal 97 = .ok (.ireturn, 1) := by decide +kernel
theorem dX9_seed_0 : decode cX9_seed 0 = .ok (.aload_n 0, 1) := by decide +kernel
theorem dX9_seed_1 : decode cX9_seed 1 = .ok (.getfield 10, 3) := by decide +kernel
theorem dX9_seed_4 : decode cX9_seed 4 = .ok (.getfield 132, 3) := by decide +kernel
theorem dX9_seed_7 : decode cX9_seed 7 = .ok (.istore_n 2, 1) := by decide +kernel
theorem dX9_seed_8 : decode cX9_seed 8 = .ok (.aload_n 0, 1) := by decide +kernel
theorem dX9_seed_9 : decode cX9_seed 9 = .ok (.getfield 10, 3) := by decide +kernel
theorem dX9_seed_12 : decode cX9_seed 12 = .ok (.iload_n 1, 1) := by decide +kernel
theorem dX9_seed_13 : decode cX9_seed 13 = .ok (.putfield 132, 3) := by decide +kernel
theorem dX9_seed_16 : decode cX9_seed 16 = .ok (.iload_n 2, 1) := by decide +kernel
theorem dX9_seed_17 : decode cX9_seed 17 = .ok (.ireturn, 1) := by decide +kernel
theorem dX9_set_0 : decode cX9_set 0 = .ok (.iload_n 1, 1) := by decide +kernel
theorem dX9_set_1 : decode cX9_set 1 = .ok (.ifCond .ne 33, 3) := by decide +kernel
theorem dX9_set_4 : decode cX9_set 4 = .ok (.iload_n 2, 1) := by decide +kernel
theorem dX9_set_5 : decode cX9_set 5 = .ok (.iconst 1, 1) := by decide +kernel
theorem dX9_set_6 : decode cX9_set 6 = .ok (.sipush 999, 3) := by decide +kernel
theorem dX9_set_9 : decode cX9_set 9 = .ok (.invokestatic 79, 3) := by decide +kernel
theorem dX9_set_12 : decode cX9_set 12 = .ok (.ifCond .eq 22, 3) := by decide +kernel
theorem dX9_set_15 : decode cX9_set 15 = .ok (.aload_n 0, 1) := by decide +kernel
theorem dX9_set_16 : decode cX9_set 16 = .ok (.getfield 10, 3) := by decide +kernel
theorem dX9_set_19 : decode cX9_set 19 = .ok (.getfield 135, 3) := by decide +kernel
theorem dX9_set_22 : decode cX9_set 22 = .ok (.istore_n 3, 1) := by decide +kernel
theorem dX9_set_23 : decode cX9_set 23 = .ok (.aload_n 0, 1) := by decide +kernel
theorem dX9_set_24 : decode cX9_set 24 = .ok (.getfield 10, 3) := by decide +kernel
theorem dX9_set_27 : decode cX9_set 27 = .ok (.iload_n 2, 1) := by decide +kernel
theorem dX9_set_28 : decode cX9_set 28 = .ok (.putfield 135, 3) := by decide +kernel
theorem dX9_set_31 : decode cX9_set 31 = .ok (.goto 75, 3) := by decide +kernel
theorem dX9_set_34 : decode cX9_set 34 = .ok (.iload_n 1, 1) := by decide +kernel
theorem dX9_set_35 : decode cX9_set 35 = .ok (.iconst 1, 1) := by decide +kernel
theorem dX9_set_36 : decode cX9_set 36 = .ok (.if_icmp .ne 32, 3) := by decide +kernel
theorem dX9_set_39 : decode cX9_set 39 = .ok (.iload_n 2, 1) := by decide +kernel
theorem dX9_set_40 : decode cX9_set 40 = .ok (.iconst 0, 1) := by decide +kernel
theorem dX9_set_41 : decode cX9_set 41 = .ok (.bipush 9, 2) := by decide +kernel
theorem dX9_set_43 : decode cX9_set 43 = .ok (.invokestatic 79, 3) := by decide +kernel
theorem dX9_set_46 : decode cX9_set 46 = .ok (.ifCond .eq 22, 3) := by decide +kernel
theorem dX9_set_49 : decode cX9_set 49 = .ok (.aload_n 0, 1) := by decide +kernel
theorem dX9_set_50 : decode cX9_set 50 = .ok (.getfield 10, 3) := by decide +kernel
theorem dX9_set_53 : decode cX9_set 53 = .ok (.getfield 138, 3) := by decide +kernel
theorem dX9_set_56 : decode cX9_set 56 = .ok (.istore_n 3, 1) := by decide +kernel
theorem dX9_set_57 : decode cX9_set 57 = .ok (.aload_n 0, 1) := by decide +kernel
theorem dX9_set_58 : decode cX9_set 58 = .ok (.getfield 10, 3) := by decide +kernel
theorem dX9_set_61 : decode cX9_set 61 = .ok (.iload_n 2, 1) := by decide +kernel
theorem dX9_set_62 : decode cX9_set 62 = .ok (.putfield 138, 3) := by decide +kernel
theorem dX9_set_65 : decode cX9_set 65 = .ok (.goto 41, 3) := by decide +kernel
theorem dX9_set_68 : decode cX9_set 68 = .ok (.iload_n 1, 1) := by decide +kernel
theorem dX9_set_69 : decode cX9_set 69 = .ok (.iconst 2, 1) := by decide +kernel
theorem dX9_set_70 : decode cX9_set 70 = .ok (.if_icmp .ne 33, 3) := by decide +kernel
theorem dX9_set_73 : decode cX9_set 73 = .ok (.iload_n 2, 1) := by decide +kernel
theorem dX9_set_74 : decode cX9_set 74 = .ok (.iconst 1, 1) := by decide +kernel
theorem dX9_set_75 : decode cX9_set 75 = .ok (.sipush 999, 3) := by decide +kernel
theorem dX9_set_78 : decode cX9_set 78 = .ok (.invokestatic 79, 3) := by decide +kernel
theorem dX9_set_81 : decode cX9_set 81 = .ok (.ifCond .eq 22, 3) := by decide +kernel
theorem dX9_set_84 : decode cX9_set 84 = .ok (.aload_n 0, 1) := by decide +kernel
theorem dX9_set_85 : decode cX9_set 85 = .ok (.getfield 10, 3) := by decide +kernel
theorem dX9_set_88 : decode cX9_set 88 = .ok (.getfield 141, 3) := by decide +kernel
theorem dX9_set_91 : decode cX9_set 91 = .ok (.istore_n 3, 1) := by decide +kernel
theorem dX9_set_92 : decode cX9_set 92 = .ok (.aload_n 0, 1) := by decide +kernel
theorem dX9_set_93 : decode cX9_set 93 = .ok (.getfield 10, 3) := by decide +kernel
theorem dX9_set_96 : decode cX9_set 96 = .ok (.iload_n 2, 1) := by decide +kernel
theorem dX9_set_97 : decode cX9_set 97 = .ok (.putfield 141, 3) := by decide +kernel
theorem dX9_set_100 : decode cX9_set 100 = .ok (.goto 6, 3) := by decide +kernel
theorem dX9_set_103 : decode cX9_set 103 = .ok (.ldc 83, 2) := by decide +kernel
theorem dX9_set_105 : decode cX9_set 105 = .ok (.istore_n 3, 1) := by decide +kernel
theorem dX9_set_106 : decode cX9_set 106 = .ok (.iload_n 3, 1) := by decide +kernel
theorem dX9_set_107 : decode cX9_set 107 = .ok (.ireturn, 1) := by decide +kernel
theorem dX9_board_0 : decode cX9_board 0 = .ok (.iload_n 1, 1) := by decide +kernel
theorem dX9_board_1 : decode cX9_board 1 = .ok (.invokestatic 144, 3) := by decide +kernel
theorem dX9_board_4 : decode cX9_board 4 = .ok (.ifCond .eq 17, 3) := by decide +kernel
theorem dX9_board_7 : decode cX9_board 7 = .ok (.iload_n 2, 1) := by decide +kernel
theorem dX9_board_8 : decode cX9_board 8 = .ok (.ifCond .lt 13, 3) := by decide +kernel
theorem dX9_board_11 : decode cX9_board 11 = .ok (.iload_n 3, 1) := by decide +kernel
theorem dX9_board_12 : decode cX9_board 12 = .ok (.iconst 0, 1) := by decide +kernel
theorem dX9_board_13 : decode cX9_board 13 = .ok (.bipush 99, 2) := by decide +kernel
theorem dX9_board_15 : decode cX9_board 15 = .ok (.invokestatic 79, 3) := by decide +kernel
theorem dX9_board_18 : decode cX9_board 18 = .ok (.ifCond .ne 6, 3) := by decide +kernel
theorem dX9_board_21 : decode cX9_board 21 = .ok (.ldc 83, 2) := by decide +kernel
theorem dX9_board_23 : decode cX9_board 23 = .ok (.ireturn, 1) := by decide +kernel
theorem dX9_board_24 : decode cX9_board 24 = .ok (.iload_n 2, 1) := by decide +kernel
theorem dX9_board_25 : decode cX9_board 25 = .ok (.bipush 100, 2) := by decide +kernel
theorem dX9_board_27 : decode cX9_board 27 = .ok (.idiv, 1) := by decide +kernel
theorem dX9_board_28 : decode cX9_board 28 = .ok (.istore 4, 2) := by decide +kernel
theorem dX9_board_30 : decode cX9_board 30 = .ok (.iload_n 2, 1) := by decide +kernel
theorem dX9_board_31 : decode cX9_board 31 = .ok (.bipush 100, 2) := by decide +kernel
theorem dX9_board_33 : decode cX9_board 33 = .ok (.irem, 1) := by decide +kernel
theorem dX9_board_34 : decode cX9_board 34 = .ok (.istore 5, 2) := by decide +kernel
theorem dX9_board_36 : decode cX9_board 36 = .ok (.iload 4, 2) := by decide +kernel
theorem dX9_board_38 : decode cX9_board 38 = .ok (.iload 5, 2) := by decide +kernel
theorem dX9_board_40 : decode cX9_board 40 = .ok (.if_icmp .gt 15, 3) := by decide +kernel
theorem dX9_board_43 : decode cX9_board 43 = .ok (.aload_n 0, 1) := by decide +kernel
theorem dX9_board_44 : decode cX9_board 44 = .ok (.getfield 10, 3) := by decide +kernel
theorem dX9_board_47 : decode cX9_board 47 = .ok (.iload 5, 2) := by decide +kernel
theorem dX9_board_49 : decode cX9_board 49 = .ok (.invokevirtual 93, 3) := by decide +kernel
theorem dX9_board_52 : decode cX9_board 52 = .ok (.ifCond .ne 6, 3) := by decide +kernel
theorem dX9_board_55 : decode cX9_board 55 = .ok (.ldc 83, 2) := by decide +kernel
theorem dX9_board_57 : decode cX9_board 57 = .ok (.ireturn, 1) := by decide +kernel
theorem dX9_board_58 : decode cX9_board 58 = .ok (.aload_n 0, 1) := by decide +kernel
theorem dX9_board_59 : decode cX9_board 59 = .ok (.getfield 10, 3) := by decide +kernel
theorem dX9_board_62 : decode cX9_board 62 = .ok (.getfield 147, 3) := by decide +kernel
theorem dX9_board_65 : decode cX9_board 65 = .ok (.bipush 12, 2) := by decide +kernel
theorem dX9_board_67 : decode cX9_board 67 = .ok (.if_icmp .lt 6, 3) := by decide +kernel
theorem dX9_board_70 : decode cX9_board 70 = .ok (.ldc 88, 2) := by decide +kernel
theorem dX9_board_72 : decode cX9_board 72 = .ok (.ireturn, 1) := by decide +kernel
theorem dX9_board_73 : decode cX9_board 73 = .ok (.aload_n 0, 1) := by decide +kernel
theorem dX9_board_74 : decode cX9_board 74 = .ok (.getfield 10, 3) := by decide +kernel
theorem dX9_board_77 : decode cX9_board 77 = .ok (.iload_n 1, 1) := by decide +kernel
theorem dX9_board_78 : decode cX9_board 78 = .ok (.iload 4, 2) := by decide +kernel
theorem dX9_board_80 : decode cX9_board 80 = .ok (.iload 5, 2) := by decide +kernel
theorem dX9_board_82 : decode cX9_board 82 = .ok (.iload_n 3, 1) := by decide +kernel
theorem dX9_board_83 : decode cX9_board 83 = .ok (.invokevirtual 150, 3) := by decide +kernel
theorem dX9_board_86 : decode cX9_board 86 = .ok (.ireturn, 1) := by decide +kernel
theorem dX9_told_0 : decode cX9_told 0 = .ok (.aload_n 0, 1) := by decide +kernel
theorem dX9_told_1 : decode cX9_told 1 = .ok (.getfield 10, 3) := by decide +kernel
theorem dX9_told_4 : decode cX9_told 4 = .ok (.iload_n 1, 1) := by decide +kernel
theorem dX9_told_5 : decode cX9_told 5 = .ok (.invokevirtual 154, 3) := by decide +kernel
theorem dX9_told_8 : decode cX9_told 8 = .ok (.ifCond .ne 6, 3) := by decide +kernel
theorem dX9_told_11 : decode cX9_told 11 = .ok (.ldc 83, 2) := by decide +kernel
theorem dX9_told_13 : decode cX9_told 13 = .ok (.ireturn, 1) := by decide +kernel
theorem dX9_told_14 : decode cX9_told 14 = .ok (.aload_n 0, 1) := by decide +kernel
theorem dX9_told_15 : decode cX9_told 15 = .ok (.getfield 10, 3) := by decide +kernel
theorem dX9_told_18 : decode cX9_told 18 = .ok (.getfield 157, 3) := by decide +kernel
theorem dX9_told_21 : decode cX9_told 21 = .ok (.iload_n 1, 1) := by decide +kernel
theorem dX9_told_22 : decode cX9_told 22 = .ok (.aaload, 1) := by decide +kernel
theorem dX9_told_23 : decode cX9_told 23 = .ok (.astore_n 3, 1) := by decide +kernel
theorem dX9_told_24 : decode cX9_told 24 = .ok (.iload_n 2, 1) := by decide +kernel
theorem dX9_told_25 : decode cX9_told 25 = .ok (.tableswitch 107 0 7 #[47, 52, 57, 62, 67, 76, 85, 90], 47) := by decide +kernel
theorem dX9_told_72 : decode cX9_told 72 = .ok (.aload_n 3, 1) := by decide +kernel
theorem dX9_told_73 : decode cX9_told 73 = .ok (.getfield 161, 3) := by decide +kernel
theorem dX9_told_76 : decode cX9_told 76 = .ok (.ireturn, 1) := by decide +kernel
theorem dX9_told_77 : decode cX9_told 77 = .ok (.aload_n 3, 1) := by decide +kernel
theorem dX9_told_78 : decode cX9_told 78 = .ok (.getfield 166, 3) := by decide +kernel
theorem dX9_told_81 : decode cX9_told 81 = .ok (.ireturn, 1) := by decide +kernel
theorem dX9_told_82 : decode cX9_told 82 = .ok (.aload_n 3, 1) := by decide +kernel
theorem dX9_told_83 : decode cX9_told 83 = .ok (.getfield 169, 3) := by decide +kernel
theorem dX9_told_86 : decode cX9_told 86 = .ok (.ireturn, 1) := by decide +kernel
theorem dX9_told_87 : decode cX9_told 87 = .ok (.aload_n 3, 1) := by decide +kernel
theorem dX9_told_88 : decode cX9_told 88 = .ok (.getfield 172, 3) := by decide +kernel
theorem dX9_told_91 : decode cX9_told 91 = .ok (.ireturn, 1) := by decide +kernel
theorem dX9_told_92 : decode cX9_told 92 = .ok (.aload_n 3, 1) := by decide +kernel
theorem dX9_told_93 : decode cX9_told 93 = .ok (.aload_n 0, 1) := by decide +kernel
theorem dX9_told_94 : decode cX9_told 94 = .ok (.getfield 10, 3) := by decide +kernel
theorem dX9_told_97 : decode cX9_told 97 = .ok (.invokevirtual 175, 3) := by decide +kernel
theorem dX9_told_100 : decode cX9_told 100 = .ok (.ireturn, 1) := by decide +kernel
theorem dX9_told_101 : decode cX9_told 101 = .ok (.aload_n 3, 1) := by decide +kernel
theorem dX9_told_102 : decode cX9_told 102 = .ok (.aload_n 0, 1) := by decide +kernel
theorem dX9_told_103 : decode cX9_told 103 = .ok (.getfield 10, 3) := by decide +kernel
theorem dX9_told_106 : decode cX9_told 106 = .ok (.invokevirtual 179, 3) := by decide +kernel
theorem dX9_told_109 : decode cX9_told 109 = .ok (.ireturn, 1) := by decide +kernel
theorem dX9_told_110 : decode cX9_told 110 = .ok (.aload_n 3, 1) := by decide +kernel
theorem dX9_told_111 : decode cX9_told 111 = .ok (.invokevirtual 182, 3) := by decide +kernel
theorem dX9_told_114 : decode cX9_told 114 = .ok (.ireturn, 1) := by decide +kernel
theorem dX9_told_115 : decode cX9_told 115 = .ok (.aload_n 3, 1) := by decide +kernel
theorem dX9_told_116 : decode cX9_told 116 = .ok (.aload_n 0, 1) := by decide +kernel
theorem dX9_told_117 : decode cX9_told 117 = .ok (.getfield 10, 3) := by decide +kernel
theorem dX9_told_120 : decode cX9_told 120 = .ok (.invokevirtual 185, 3) := by decide +kernel
theorem dX9_told_123 : decode cX9_told 123 = .ok (.ifCond .eq 7, 3) := by decide +kernel
theorem dX9_told_126 : decode cX9_told 126 = .ok (.iconst 1, 1) := by decide +kernel
theorem dX9_told_127 : decode cX9_told 127 = .ok (.goto 4, 3) := by decide +kernel
theorem dX9_told_130 : decode cX9_told 130 = .ok (.iconst 0, 1) := by decide +kernel
theorem dX9_told_131 : decode cX9_told 131 = .ok (.ireturn, 1) := by decide +kernel
theorem dX9_told_132 : decode cX9_told 132 = .ok (.ldc 83, 2) := by decide +kernel
theorem dX9_told_134 : decode cX9_told 134 = .ok (.ireturn, 1) := by decide +kernel
theorem dX9_as_0 : decode cX9_as 0 = .ok (.aload_n 0, 1) := by decide +kernel
theorem dX9_as_1 : decode cX9_as 1 = .ok (.getfield 10, 3) := by decide +kernel
theorem dX9_as_4 : decode cX9_as 4 = .ok (.iload_n 1, 1) := by decide +kernel
theorem dX9_as_5 : decode cX9_as 5 = .ok (.invokevirtual 154, 3) := by decide +kernel
theorem dX9_as_8 : decode cX9_as 8 = .ok (.ifCond .eq 10, 3) := by decide +kernel
theorem dX9_as_11 : decode cX9_as 11 = .ok (.iload_n 2, 1) := by decide +kernel
theorem dX9_as_12 : decode cX9_as 12 = .ok (.invokestatic 144, 3) := by decide +kernel
theorem dX9_as_15 : decode cX9_as 15 = .ok (.ifCond .ne 6, 3) := by decide +kernel
theorem dX9_as_18 : decode cX9_as 18 = .ok (.ldc 83, 2) := by decide +kernel
theorem dX9_as_20 : decode cX9_as 20 = .ok (.ireturn, 1) := by decide +kernel
theorem dX9_as_21 : decode cX9_as 21 = .ok (.aload_n 0, 1) := by decide +kernel
theorem dX9_as_22 : decode cX9_as 22 = .ok (.getfield 10, 3) := by decide +kernel
theorem dX9_as_25 : decode cX9_as 25 = .ok (.getfield 157, 3) := by decide +kernel
theorem dX9_as_28 : decode cX9_as 28 = .ok (.iload_n 1, 1) := by decide +kernel
theorem dX9_as_29 : decode cX9_as 29 = .ok (.aaload, 1) := by decide +kernel
theorem dX9_as_30 : decode cX9_as 30 = .ok (.astore_n 3, 1) := by decide +kernel
theorem dX9_as_31 : decode cX9_as 31 = .ok (.aload_n 3, 1) := by decide +kernel
theorem dX9_as_32 : decode cX9_as 32 = .ok (.getfield 161, 3) := by decide +kernel
theorem dX9_as_35 : decode cX9_as 35 = .ok (.iload_n 2, 1) := by decide +kernel
theorem dX9_as_36 : decode cX9_as 36 = .ok (.invokestatic 189, 3) := by decide +kernel
theorem dX9_as_39 : decode cX9_as 39 = .ok (.ifCond .eq 10, 3) := by decide +kernel
theorem dX9_as_42 : decode cX9_as 42 = .ok (.aload_n 3, 1) := by decide +kernel
theorem dX9_as_43 : decode cX9_as 43 = .ok (.getfield 172, 3) := by decide +kernel
theorem dX9_as_46 : decode cX9_as 46 = .ok (.goto 5, 3) := by decide +kernel
theorem dX9_as_49 : decode cX9_as 49 = .ok (.ldc 193, 2) := by decide +kernel
theorem dX9_as_51 : decode cX9_as 51 = .ok (.ireturn, 1) := by decide +kernel
theorem dX9_turns_0 : decode cX9_turns 0 = .ok (.aload_n 0, 1) := by decide +kernel
theorem dX9_turns_1 : decode cX9_turns 1 = .ok (.getfield 10, 3) := by decide +kernel
theorem dX9_turns_4 : decode cX9_turns 4 = .ok (.iload_n 1, 1) := by decide +kernel
theorem dX9_turns_5 : decode cX9_turns 5 = .ok (.invokevirtual 154, 3) := by decide +kernel
theorem dX9_turns_8 : decode cX9_turns 8 = .ok (.ifCond .eq 10, 3) := by decide +kernel
theorem dX9_turns_11 : decode cX9_turns 11 = .ok (.iload_n 2, 1) := by decide +kernel
theorem dX9_turns_12 : decode cX9_turns 12 = .ok (.invokestatic 144, 3) := by decide +kernel
theorem dX9_turns_15 : decode cX9_turns 15 = .ok (.ifCond .ne 6, 3) := by decide +kernel
theorem dX9_turns_18 : decode cX9_turns 18 = .ok (.ldc 83, 2) := by decide +kernel
theorem dX9_turns_20 : decode cX9_turns 20 = .ok (.ireturn, 1) := by decide +kernel
theorem dX9_turns_21 : decode cX9_turns 21 = .ok (.aload_n 0, 1) := by decide +kernel
theorem dX9_turns_22 : decode cX9_turns 22 = .ok (.getfield 10, 3) := by decide +kernel
theorem dX9_turns_25 : decode cX9_turns 25 = .ok (.getfield 157, 3) := by decide +kernel
theorem dX9_turns_28 : decode cX9_turns 28 = .ok (.iload_n 1, 1) := by decide +kernel
theorem dX9_turns_29 : decode cX9_turns 29 = .ok (.aaload, 1) := by decide +kernel
theorem dX9_turns_30 : decode cX9_turns 30 = .ok (.getfield 161, 3) := by decide +kernel
theorem dX9_turns_33 : decode cX9_turns 33 = .ok (.istore_n 3, 1) := by decide +kernel
theorem dX9_turns_34 : decode cX9_turns 34 = .ok (.aload_n 0, 1) := by decide +kernel
theorem dX9_turns_35 : decode cX9_turns 35 = .ok (.getfield 10, 3) := by decide +kernel
theorem dX9_turns_38 : decode cX9_turns 38 = .ok (.getfield 157, 3) := by decide +kernel
theorem dX9_turns_41 : decode cX9_turns 41 = .ok (.iload_n 1, 1) := by decide +kernel
theorem dX9_turns_42 : decode cX9_turns 42 = .ok (.aaload, 1) := by decide +kernel
theorem dX9_turns_43 : decode cX9_turns 43 = .ok (.iload_n 2, 1) := by decide +kernel
theorem dX9_turns_44 : decode cX9_turns 44 = .ok (.putfield 161, 3) := by decide +kernel
theorem dX9_turns_47 : decode cX9_turns 47 = .ok (.iload_n 3, 1) := by decide +kernel
theorem dX9_turns_48 : decode cX9_turns 48 = .ok (.ireturn, 1) := by decide +kernel
theorem dX9_drop_0 : decode cX9_drop 0 = .ok (.aload_n 0, 1) := by decide +kernel
theorem dX9_drop_1 : decode cX9_drop 1 = .ok (.getfield 10, 3) := by decide +kernel
theorem dX9_drop_4 : decode cX9_drop 4 = .ok (.iload_n 1, 1) := by decide +kernel
theorem dX9_drop_5 : decode cX9_drop 5 = .ok (.invokevirtual 154, 3) := by decide +kernel
theorem dX9_drop_8 : decode cX9_drop 8 = .ok (.ifCond .ne 6, 3) := by decide +kernel
theorem dX9_drop_11 : decode cX9_drop 11 = .ok (.ldc 83, 2) := by decide +kernel
theorem dX9_drop_13 : decode cX9_drop 13 = .ok (.ireturn, 1) := by decide +kernel
theorem dX9_drop_14 : decode cX9_drop 14 = .ok (.aload_n 0, 1) := by decide +kernel
theorem dX9_drop_15 : decode cX9_drop 15 = .ok (.getfield 10, 3) := by decide +kernel
theorem dX9_drop_18 : decode cX9_drop 18 = .ok (.iload_n 1, 1) := by decide +kernel
theorem dX9_drop_19 : decode cX9_drop 19 = .ok (.invokevirtual 194, 3) := by decide +kernel
theorem dX9_drop_22 : decode cX9_drop 22 = .ok (.ireturn, 1) := by decide +kernel
theorem dX9_judge_0 : decode cX9_judge 0 = .ok (.iload_n 1, 1) := by decide +kernel
theorem dX9_judge_1 : decode cX9_judge 1 = .ok (.tableswitch 51 0 2 #[27, 35, 43], 27) := by decide +kernel
theorem dX9_judge_28 : decode cX9_judge 28 = .ok (.aload_n 0, 1) := by decide +kernel
theorem dX9_judge_29 : decode cX9_judge 29 = .ok (.getfield 10, 3) := by decide +kernel
theorem dX9_judge_32 : decode cX9_judge 32 = .ok (.invokevirtual 197, 3) := by decide +kernel
theorem dX9_judge_35 : decode cX9_judge 35 = .ok (.ireturn, 1) := by decide +kernel
theorem dX9_judge_36 : decode cX9_judge 36 = .ok (.aload_n 0, 1) := by decide +kernel
theorem dX9_judge_37 : decode cX9_judge 37 = .ok (.getfield 10, 3) := by decide +kernel
theorem dX9_judge_40 : decode cX9_judge 40 = .ok (.invokevirtual 200, 3) := by decide +kernel
theorem dX9_judge_43 : decode cX9_judge 43 = .ok (.ireturn, 1) := by decide +kernel
theorem dX9_judge_44 : decode cX9_judge 44 = .ok (.aload_n 0, 1) := by decide +kernel
theorem dX9_judge_45 : decode cX9_judge 45 = .ok (.getfield 10, 3) := by decide +kernel
theorem dX9_judge_48 : decode cX9_judge 48 = .ok (.invokevirtual 203, 3) := by decide +kernel
theorem dX9_judge_51 : decode cX9_judge 51 = .ok (.ireturn, 1) := by decide +kernel
theorem dX9_judge_52 : decode cX9_judge 52 = .ok (.ldc 83, 2) := by decide +kernel
theorem dX9_judge_54 : decode cX9_judge 54 = .ok (.ireturn, 1) := by decide +kernel
theorem dX9_setting_0 : decode cX9_setting 0 = .ok (.iload_n 1, 1) := by decide +kernel
theorem dX9_setting_1 : decode cX9_setting 1 = .ok (.bipush (-2), 2) := by decide +kernel
theorem dX9_setting_3 : decode cX9_setting 3 = .ok (.if_icmp .ge 6, 3) := by decide +kernel
theorem dX9_setting_6 : decode cX9_setting 6 = .ok (.ldc 83, 2) := by decide +kernel
theorem dX9_setting_8 : decode cX9_setting 8 = .ok (.ireturn, 1) := by decide +kernel
theorem dX9_setting_9 : decode cX9_setting 9 = .ok (.aload_n 0, 1) := by decide +kernel
theorem dX9_setting_10 : decode cX9_setting 10 = .ok (.getfield 22, 3) := by decide +kernel
theorem dX9_setting_13 : decode cX9_setting 13 = .ok (.aload_n 0, 1) := by decide +kernel
theorem dX9_setting_14 : decode cX9_setting 14 = .ok (.getfield 10, 3) := by decide +kernel
theorem dX9_setting_17 : decode cX9_setting 17 = .ok (.invokevirtual 109, 3) := by decide +kernel
theorem dX9_setting_20 : decode cX9_setting 20 = .ok (.invokevirtual 113, 3) := by decide +kernel
theorem dX9_setting_23 : decode cX9_setting 23 = .ok (.ifCond .ne 6, 3) := by decide +kernel
theorem dX9_setting_26 : decode cX9_setting 26 = .ok (.ldc 121, 2) := by decide +kernel
theorem dX9_setting_28 : decode cX9_setting 28 = .ok (.ireturn, 1) := by decide +kernel
theorem dX9_setting_29 : decode cX9_setting 29 = .ok (.iload_n 1, 1) := by decide +kernel
theorem dX9_setting_30 : decode cX9_setting 30 = .ok (.bipush (-2), 2) := by decide +kernel
theorem dX9_setting_32 : decode cX9_setting 32 = .ok (.if_icmp .ne 13, 3) := by decide +kernel
theorem dX9_setting_35 : decode cX9_setting 35 = .ok (.aload_n 0, 1) := by decide +kernel
theorem dX9_setting_36 : decode cX9_setting 36 = .ok (.getfield 22, 3) := by decide +kernel
theorem dX9_setting_39 : decode cX9_setting 39 = .ok (.getfield 206, 3) := by decide +kernel
theorem dX9_setting_42 : decode cX9_setting 42 = .ok (.iconst 0, 1) := by decide +kernel
theorem dX9_setting_43 : decode cX9_setting 43 = .ok (.iaload, 1) := by decide +kernel
theorem dX9_setting_44 : decode cX9_setting 44 = .ok (.ireturn, 1) := by decide +kernel
theorem dX9_setting_45 : decode cX9_setting 45 = .ok (.iload_n 1, 1) := by decide +kernel
theorem dX9_setting_46 : decode cX9_setting 46 = .ok (.iconst (-1), 1) := by decide +kernel
theorem dX9_setting_47 : decode cX9_setting 47 = .ok (.if_icmp .ne 11, 3) := by decide +kernel
theorem dX9_setting_50 : decode cX9_setting 50 = .ok (.aload_n 0, 1) := by decide +kernel
theorem dX9_setting_51 : decode cX9_setting 51 = .ok (.getfield 22, 3) := by decide +kernel
theorem dX9_setting_54 : decode cX9_setting 54 = .ok (.getfield 209, 3) := by decide +kernel
theorem dX9_setting_57 : decode cX9_setting 57 = .ok (.ireturn, 1) := by decide +kernel
theorem dX9_setting_58 : decode cX9_setting 58 = .ok (.iload_n 1, 1) := by decide +kernel
theorem dX9_setting_59 : decode cX9_setting 59 = .ok (.aload_n 0, 1) := by decide +kernel
theorem dX9_setting_60 : decode cX9_setting 60 = .ok (.getfield 22, 3) := by decide +kernel
theorem dX9_setting_63 : decode cX9_setting 63 = .ok (.getfield 209, 3) := by decide +kernel
theorem dX9_setting_66 : decode cX9_setting 66 = .ok (.if_icmp .ge 15, 3) := by decide +kernel
theorem dX9_setting_69 : decode cX9_setting 69 = .ok (.aload_n 0, 1) := by decide +kernel
theorem dX9_setting_70 : decode cX9_setting 70 = .ok (.getfield 22, 3) := by decide +kernel
theorem dX9_setting_73 : decode cX9_setting 73 = .ok (.getfield 212, 3) := by decide +kernel
theorem dX9_setting_76 : decode cX9_setting 76 = .ok (.iload_n 1, 1) := by decide +kernel
theorem dX9_setting_77 : decode cX9_setting 77 = .ok (.iaload, 1) := by decide +kernel
theorem dX9_setting_78 : decode cX9_setting 78 = .ok (.goto 5, 3) := by decide +kernel
theorem dX9_setting_81 : decode cX9_setting 81 = .ok (.ldc 121, 2) := by decide +kernel
theorem dX9_setting_83 : decode cX9_setting 83 = .ok (.ireturn, 1) := by decide +kernel
theorem dX9_line_0 : decode cX9_line 0 = .ok (.iload_n 1, 1) := by decide +kernel
theorem dX9_line_1 : decode cX9_line 1 = .ok (.ifCond .lt 12, 3) := by decide +kernel
theorem dX9_line_4 : decode cX9_line 4 = .ok (.iload_n 2, 1) := by decide +kernel
theorem dX9_line_5 : decode cX9_line 5 = .ok (.iconst 0, 1) := by decide +kernel
theorem dX9_line_6 : decode cX9_line 6 = .ok (.iconst 4, 1) := by decide +kernel
theorem dX9_line_7 : decode cX9_line 7 = .ok (.invokestatic 79, 3) := by decide +kernel
theorem dX9_line_10 : decode cX9_line 10 = .ok (.ifCond .ne 6, 3) := by decide +kernel
theorem dX9_line_13 : decode cX9_line 13 = .ok (.ldc 83, 2) := by decide +kernel
theorem dX9_line_15 : decode cX9_line 15 = .ok (.ireturn, 1) := by decide +kernel
theorem dX9_line_16 : decode cX9_line 16 = .ok (.aload_n 0, 1) := by decide +kernel
theorem dX9_line_17 : decode cX9_line 17 = .ok (.getfield 22, 3) := by decide +kernel
theorem dX9_line_20 : decode cX9_line 20 = .ok (.aload_n 0, 1) := by decide +kernel
theorem dX9_line_21 : decode cX9_line 21 = .ok (.getfield 10, 3) := by decide +kernel
theorem dX9_line_24 : decode cX9_line 24 = .ok (.invokevirtual 109, 3) := by decide +kernel
theorem dX9_line_27 : decode cX9_line 27 = .ok (.invokevirtual 113, 3) := by decide +kernel
theorem dX9_line_30 : decode cX9_line 30 = .ok (.ifCond .eq 14, 3) := by decide +kernel
theorem dX9_line_33 : decode cX9_line 33 = .ok (.iload_n 1, 1) := by decide +kernel
theorem dX9_line_34 : decode cX9_line 34 = .ok (.aload_n 0, 1) := by decide +kernel
theorem dX9_line_35 : decode cX9_line 35 = .ok (.getfield 22, 3) := by decide +kernel
theorem dX9_line_38 : decode cX9_line 38 = .ok (.getfield 209, 3) := by decide +kernel
theorem dX9_line_41 : decode cX9_line 41 = .ok (.if_icmp .lt 6, 3) := by decide +kernel
theorem dX9_line_44 : decode cX9_line 44 = .ok (.ldc 121, 2) := by decide +kernel
theorem dX9_line_46 : decode cX9_line 46 = .ok (.ireturn, 1) := by decide +kernel
theorem dX9_line_47 : decode cX9_line 47 = .ok (.iload_n 2, 1) := by decide +kernel
theorem dX9_line_48 : decode cX9_line 48 = .ok (.tableswitch 75 0 3 #[32, 41, 50, 59], 32) := by decide +kernel
theorem dX9_line_80 : decode cX9_line 80 = .ok (.aload_n 0, 1) := by decide +kernel
theorem dX9_line_81 : decode cX9_line 81 = .ok (.getfield 22, 3) := by decide +kernel
theorem dX9_line_84 : decode cX9_line 84 = .ok (.iload_n 1, 1) := by decide +kernel
theorem dX9_line_85 : decode cX9_line 85 = .ok (.invokevirtual 214, 3) := by decide +kernel
theorem dX9_line_88 : decode cX9_line 88 = .ok (.ireturn, 1) := by decide +kernel
theorem dX9_line_89 : decode cX9_line 89 = .ok (.aload_n 0, 1) := by decide +kernel
theorem dX9_line_90 : decode cX9_line 90 = .ok (.getfield 22, 3) := by decide +kernel
theorem dX9_line_93 : decode cX9_line 93 = .ok (.iload_n 1, 1) := by decide +kernel
theorem dX9_line_94 : decode cX9_line 94 = .ok (.invokevirtual 217, 3) := by decide +kernel
theorem dX9_line_97 : decode cX9_line 97 = .ok (.ireturn, 1) := by decide +kernel
theorem dX9_line_98 : decode cX9_line 98 = .ok (.aload_n 0, 1) := by decide +kernel
theorem dX9_line_99 : decode cX9_line 99 = .ok (.getfield 22, 3) := by decide +kernel
theorem dX9_line_102 : decode cX9_line 102 = .ok (.iload_n 1, 1) := by decide +kernel
theorem dX9_line_103 : decode cX9_line 103 = .ok (.invokevirtual 220, 3) := by decide +kernel
theorem dX9_line_106 : decode cX9_line 106 = .ok (.ireturn, 1) := by decide +kernel
theorem dX9_line_107 : decode cX9_line 107 = .ok (.aload_n 0, 1) := by decide +kernel
theorem dX9_line_108 : decode cX9_line 108 = .ok (.getfield 22, 3) := by decide +kernel
theorem dX9_line_111 : decode cX9_line 111 = .ok (.aload_n 0, 1) := by decide +kernel
theorem dX9_line_112 : decode cX9_line 112 = .ok (.getfield 22, 3) := by decide +kernel
theorem dX9_line_115 : decode cX9_line 115 = .ok (.iload_n 1, 1) := by decide +kernel
theorem dX9_line_116 : decode cX9_line 116 = .ok (.invokevirtual 220, 3) := by decide +kernel
theorem dX9_line_119 : decode cX9_line 119 = .ok (.invokevirtual 223, 3) := by decide +kernel
theorem dX9_line_122 : decode cX9_line 122 = .ok (.ireturn, 1) := by decide +kernel
theorem dX9_line_123 : decode cX9_line 123 = .ok (.aload_n 0, 1) := by decide +kernel
theorem dX9_line_124 : decode cX9_line 124 = .ok (.getfield 22, 3) := by decide +kernel
theorem dX9_line_127 : decode cX9_line 127 = .ok (.aload_n 0, 1) := by decide +kernel
theorem dX9_line_128 : decode cX9_line 128 = .ok (.getfield 22, 3) := by decide +kernel
theorem dX9_line_131 : decode cX9_line 131 = .ok (.aload_n 0, 1) := by decide +kernel
theorem dX9_line_132 : decode cX9_line 132 = .ok (.getfield 22, 3) := by decide +kernel
theorem dX9_line_135 : decode cX9_line 135 = .ok (.iload_n 1, 1) := by decide +kernel
theorem dX9_line_136 : decode cX9_line 136 = .ok (.invokevirtual 220, 3) := by decide +kernel
theorem dX9_line_139 : decode cX9_line 139 = .ok (.invokevirtual 223, 3) := by decide +kernel
theorem dX9_line_142 : decode cX9_line 142 = .ok (.aload_n 0, 1) := by decide +kernel
theorem dX9_line_143 : decode cX9_line 143 = .ok (.getfield 22, 3) := by decide +kernel
theorem dX9_line_146 : decode cX9_line 146 = .ok (.iload_n 1, 1) := by decide +kernel
theorem dX9_line_147 : decode cX9_line 147 = .ok (.invokevirtual 214, 3) := by decide +kernel
theorem dX9_line_150 : decode cX9_line 150 = .ok (.invokevirtual 226, 3) := by decide +kernel
theorem dX9_line_153 : decode cX9_line 153 = .ok (.ireturn, 1) := by decide +kernel
theorem dX9_allow_0 : decode cX9_allow 0 = .ok (.iload_n 1, 1) := by decide +kernel
theorem dX9_allow_1 : decode cX9_allow 1 = .ok (.iconst 1, 1) := by decide +kernel
theorem dX9_allow_2 : decode cX9_allow 2 = .ok (.bipush 99, 2) := by decide +kernel
theorem dX9_allow_4 : decode cX9_allow 4 = .ok (.invokestatic 79, 3) := by decide +kernel
theorem dX9_allow_7 : decode cX9_allow 7 = .ok (.ifCond .ne 6, 3) := by decide +kernel
theorem dX9_allow_10 : decode cX9_allow 10 = .ok (.ldc 83, 2) := by decide +kernel
theorem dX9_allow_12 : decode cX9_allow 12 = .ok (.ireturn, 1) := by decide +kernel
theorem dX9_allow_13 : decode cX9_allow 13 = .ok (.aload_n 0, 1) := by decide +kernel
theorem dX9_allow_14 : decode cX9_allow 14 = .ok (.getfield 10, 3) := by decide +kernel
theorem dX9_allow_17 : decode cX9_allow 17 = .ok (.iload_n 1, 1) := by decide +kernel
theorem dX9_allow_18 : decode cX9_allow 18 = .ok (.invokevirtual 229, 3) := by decide +kernel
theorem dX9_allow_21 : decode cX9_allow 21 = .ok (.ifCond .eq 6, 3) := by decide +kernel
theorem dX9_allow_24 : decode cX9_allow 24 = .ok (.ldc 232, 2) := by decide +kernel
theorem dX9_allow_26 : decode cX9_allow 26 = .ok (.ireturn, 1) := by decide +kernel
theorem dX9_allow_27 : decode cX9_allow 27 = .ok (.aload_n 0, 1) := by decide +kernel
theorem dX9_allow_28 : decode cX9_allow 28 = .ok (.getfield 10, 3) := by decide +kernel
theorem dX9_allow_31 : decode cX9_allow 31 = .ok (.getfield 233, 3) := by decide +kernel
theorem dX9_allow_34 : decode cX9_allow 34 = .ok (.bipush 6, 2) := by decide +kernel
theorem dX9_allow_36 : decode cX9_allow 36 = .ok (.if_icmp .lt 6, 3) := by decide +kernel
theorem dX9_allow_39 : decode cX9_allow 39 = .ok (.ldc 88, 2) := by decide +kernel
theorem dX9_allow_41 : decode cX9_allow 41 = .ok (.ireturn, 1) := by decide +kernel
theorem dX9_allow_42 : decode cX9_allow 42 = .ok (.aload_n 0, 1) := by decide +kernel
theorem dX9_allow_43 : decode cX9_allow 43 = .ok (.getfield 10, 3) := by decide +kernel
theorem dX9_allow_46 : decode cX9_allow 46 = .ok (.iload_n 1, 1) := by decide +kernel
theorem dX9_allow_47 : decode cX9_allow 47 = .ok (.invokevirtual 236, 3) := by decide +kernel
theorem dX9_allow_50 : decode cX9_allow 50 = .ok (.ireturn, 1) := by decide +kernel
theorem dX9_clear_0 : decode cX9_clear 0 = .ok (.aload_n 0, 1) := by decide +kernel
theorem dX9_clear_1 : decode cX9_clear 1 = .ok (.getfield 10, 3) := by decide +kernel
theorem dX9_clear_4 : decode cX9_clear 4 = .ok (.getfield 233, 3) := by decide +kernel
theorem dX9_clear_7 : decode cX9_clear 7 = .ok (.istore_n 1, 1) := by decide +kernel
theorem dX9_clear_8 : decode cX9_clear 8 = .ok (.aload_n 0, 1) := by decide +kernel
theorem dX9_clear_9 : decode cX9_clear 9 = .ok (.getfield 10, 3) := by decide +kernel
theorem dX9_clear_12 : decode cX9_clear 12 = .ok (.iconst 0, 1) := by decide +kernel
theorem dX9_clear_13 : decode cX9_clear 13 = .ok (.putfield 233, 3) := by decide +kernel
theorem dX9_clear_16 : decode cX9_clear 16 = .ok (.iload_n 1, 1) := by decide +kernel
theorem dX9_clear_17 : decode cX9_clear 17 = .ok (.ireturn, 1) := by decide +kernel
theorem dX9_cases_0 : decode cX9_cases 0 = .ok (.iload_n 1, 1) := by decide +kernel
theorem dX9_cases_1 : decode cX9_cases 1 = .ok (.iconst 0, 1) := by decide +kernel
theorem dX9_cases_2 : decode cX9_cases 2 = .ok (.iconst 1, 1) := by decide +kernel
theorem dX9_cases_3 : decode cX9_cases 3 = .ok (.invokestatic 79, 3) := by decide +kernel
theorem dX9_cases_6 : decode cX9_cases 6 = .ok (.ifCond .ne 6, 3) := by decide +kernel
theorem dX9_cases_9 : decode cX9_cases 9 = .ok (.ldc 83, 2) := by decide +kernel
theorem dX9_cases_11 : decode cX9_cases 11 = .ok (.ireturn, 1) := by decide +kernel
theorem dX9_cases_12 : decode cX9_cases 12 = .ok (.aload_n 0, 1) := by decide +kernel
theorem dX9_cases_13 : decode cX9_cases 13 = .ok (.getfield 22, 3) := by decide +kernel
theorem dX9_cases_16 : decode cX9_cases 16 = .ok (.aload_n 0, 1) := by decide +kernel
theorem dX9_cases_17 : decode cX9_cases 17 = .ok (.getfield 10, 3) := by decide +kernel
theorem dX9_cases_20 : decode cX9_cases 20 = .ok (.invokevirtual 109, 3) := by decide +kernel
theorem dX9_cases_23 : decode cX9_cases 23 = .ok (.pop, 1) := by decide +kernel
theorem dX9_cases_24 : decode cX9_cases 24 = .ok (.aload_n 0, 1) := by decide +kernel
theorem dX9_cases_25 : decode cX9_cases 25 = .ok (.getfield 22, 3) := by decide +kernel
theorem dX9_cases_28 : decode cX9_cases 28 = .ok (.invokevirtual 239, 3) := by decide +kernel
theorem dX9_cases_31 : decode cX9_cases 31 = .ok (.istore_n 2, 1) := by decide +kernel
theorem dX9_cases_32 : decode cX9_cases 32 = .ok (.iload_n 2, 1) := by decide +kernel
theorem dX9_cases_33 : decode cX9_cases 33 = .ok (.ifCond .ge 6, 3) := by decide +kernel
theorem dX9_cases_36 : decode cX9_cases 36 = .ok (.ldc 121, 2) := by decide +kernel
theorem dX9_cases_38 : decode cX9_cases 38 = .ok (.ireturn, 1) := by decide +kernel
theorem dX9_cases_39 : decode cX9_cases 39 = .ok (.iload_n 1, 1) := by decide +kernel
theorem dX9_cases_40 : decode cX9_cases 40 = .ok (.ifCond .ne 11, 3) := by decide +kernel
theorem dX9_cases_43 : decode cX9_cases 43 = .ok (.iload_n 2, 1) := by decide +kernel
theorem dX9_cases_44 : decode cX9_cases 44 = .ok (.sipush 1000, 3) := by decide +kernel
theorem dX9_cases_47 : decode cX9_cases 47 = .ok (.idiv, 1) := by decide +kernel
theorem dX9_cases_48 : decode cX9_cases 48 = .ok (.goto 8, 3) := by decide +kernel
theorem dX9_cases_51 : decode cX9_cases 51 = .ok (.iload_n 2, 1) := by decide +kernel
theorem dX9_cases_52 : decode cX9_cases 52 = .ok (.sipush 1000, 3) := by decide +kernel
theorem dX9_cases_55 : decode cX9_cases 55 = .ok (.irem, 1) := by decide +kernel
theorem dX9_cases_56 : decode cX9_cases 56 = .ok (.ireturn, 1) := by decide +kernel
theorem dX9_few_0 : decode cX9_few 0 = .ok (.iload_n 1, 1) := by decide +kernel
theorem dX9_few_1 : decode cX9_few 1 = .ok (.iconst 1, 1) := by decide +kernel
theorem dX9_few_2 : decode cX9_few 2 = .ok (.iconst 3, 1) := by decide +kernel
theorem dX9_few_3 : decode cX9_few 3 = .ok (.invokestatic 79, 3) := by decide +kernel
theorem dX9_few_6 : decode cX9_few 6 = .ok (.ifCond .eq 13, 3) := by decide +kernel
theorem dX9_few_9 : decode cX9_few 9 = .ok (.iload_n 2, 1) := by decide +kernel
theorem dX9_few_10 : decode cX9_few 10 = .ok (.iconst (-1), 1) := by decide +kernel
theorem dX9_few_11 : decode cX9_few 11 = .ok (.if_icmp .lt 8, 3) := by decide +kernel
theorem dX9_few_14 : decode cX9_few 14 = .ok (.iload_n 2, 1) := by decide +kernel
theorem dX9_few_15 : decode cX9_few 15 = .ok (.iload_n 1, 1) := by decide +kernel
theorem dX9_few_16 : decode cX9_few 16 = .ok (.if_icmp .lt 6, 3) := by decide +kernel
theorem dX9_few_19 : decode cX9_few 19 = .ok (.ldc 83, 2) := by decide +kernel
theorem dX9_few_21 : decode cX9_few 21 = .ok (.ireturn, 1) := by decide +kernel
theorem dX9_few_22 : decode cX9_few 22 = .ok (.aload_n 0, 1) := by decide +kernel
theorem dX9_few_23 : decode cX9_few 23 = .ok (.iload_n 1, 1) := by decide +kernel
theorem dX9_few_24 : decode cX9_few 24 = .ok (.invokevirtual 242, 3) := by decide +kernel
theorem dX9_few_27 : decode cX9_few 27 = .ok (.istore_n 3, 1) := by decide +kernel
theorem dX9_few_28 : decode cX9_few 28 = .ok (.iload_n 3, 1) := by decide +kernel
theorem dX9_few_29 : decode cX9_few 29 = .ok (.ifCond .lt 7, 3) := by decide +kernel
theorem dX9_few_32 : decode cX9_few 32 = .ok (.iload_n 2, 1) := by decide +kernel
theorem dX9_few_33 : decode cX9_few 33 = .ok (.ifCond .ge 5, 3) := by decide +kernel
theorem dX9_few_36 : decode cX9_few 36 = .ok (.iload_n 3, 1) := by decide +kernel
theorem dX9_few_37 : decode cX9_few 37 = .ok (.ireturn, 1) := by decide +kernel
theorem dX9_few_38 : decode cX9_few 38 = .ok (.aload_n 0, 1) := by decide +kernel
theorem dX9_few_39 : decode cX9_few 39 = .ok (.getfield 67, 3) := by decide +kernel
theorem dX9_few_42 : decode cX9_few 42 = .ok (.iload_n 2, 1) := by decide +kernel
theorem dX9_few_43 : decode cX9_few 43 = .ok (.iaload, 1) := by decide +kernel
theorem dX9_few_44 : decode cX9_few 44 = .ok (.ireturn, 1) := by decide +kernel
theorem dX9_chooseFew_0 : decode cX9_chooseFew 0 = .ok (.aload_n 0, 1) := by decide +kernel
theorem dX9_chooseFew_1 : decode cX9_chooseFew 1 = .ok (.getfield 10, 3) := by decide +kernel
theorem dX9_chooseFew_4 : decode cX9_chooseFew 4 = .ok (.aload_n 0, 1) := by decide +kernel
theorem dX9_chooseFew_5 : decode cX9_chooseFew 5 = .ok (.getfield 61, 3) := by decide +kernel
theorem dX9_chooseFew_8 : decode cX9_chooseFew 8 = .ok (.invokevirtual 245, 3) := by decide +kernel
theorem dX9_chooseFew_11 : decode cX9_chooseFew 11 = .ok (.istore_n 2, 1) := by decide +kernel
theorem dX9_chooseFew_12 : decode cX9_chooseFew 12 = .ok (.iload_n 2, 1) := by decide +kernel
theorem dX9_chooseFew_13 : decode cX9_chooseFew 13 = .ok (.iload_n 1, 1) := by decide +kernel
theorem dX9_chooseFew_14 : decode cX9_chooseFew 14 = .ok (.if_icmp .ge 6, 3) := by decide +kernel
theorem dX9_chooseFew_17 : decode cX9_chooseFew 17 = .ok (.ldc 121, 2) := by decide +kernel
theorem dX9_chooseFew_19 : decode cX9_chooseFew 19 = .ok (.ireturn, 1) := by decide +kernel
theorem dX9_chooseFew_20 : decode cX9_chooseFew 20 = .ok (.aload_n 0, 1) := by decide +kernel
theorem dX9_chooseFew_21 : decode cX9_chooseFew 21 = .ok (.getfield 22, 3) := by decide +kernel
theorem dX9_chooseFew_24 : decode cX9_chooseFew 24 = .ok (.aload_n 0, 1) := by decide +kernel
theorem dX9_chooseFew_25 : decode cX9_chooseFew 25 = .ok (.getfield 10, 3) := by decide +kernel
theorem dX9_chooseFew_28 : decode cX9_chooseFew 28 = .ok (.invokevirtual 109, 3) := by decide +kernel
theorem dX9_chooseFew_31 : decode cX9_chooseFew 31 = .ok (.pop, 1) := by decide +kernel
theorem dX9_chooseFew_32 : decode cX9_chooseFew 32 = .ok (.iconst 0, 1) := by decide +kernel
theorem dX9_chooseFew_33 : decode cX9_chooseFew 33 = .ok (.istore_n 3, 1) := by decide +kernel
theorem dX9_chooseFew_34 : decode cX9_chooseFew 34 = .ok (.iload_n 3, 1) := by decide +kernel
theorem dX9_chooseFew_35 : decode cX9_chooseFew 35 = .ok (.iload_n 1, 1) := by decide +kernel
theorem dX9_chooseFew_36 : decode cX9_chooseFew 36 = .ok (.if_icmp .ge 16, 3) := by decide +kernel
theorem dX9_chooseFew_39 : decode cX9_chooseFew 39 = .ok (.aload_n 0, 1) := by decide +kernel
theorem dX9_chooseFew_40 : decode cX9_chooseFew 40 = .ok (.getfield 64, 3) := by decide +kernel
theorem dX9_chooseFew_43 : decode cX9_chooseFew 43 = .ok (.iload_n 3, 1) := by decide +kernel
theorem dX9_chooseFew_44 : decode cX9_chooseFew 44 = .ok (.iload_n 3, 1) := by decide +kernel
theorem dX9_chooseFew_45 : decode cX9_chooseFew 45 = .ok (.iastore, 1) := by decide +kernel
theorem dX9_chooseFew_46 : decode cX9_chooseFew 46 = .ok (.iinc 3 1, 3) := by decide +kernel
theorem dX9_chooseFew_49 : decode cX9_chooseFew 49 = .ok (.goto (-15), 3) := by decide +kernel
theorem dX9_chooseFew_52 : decode cX9_chooseFew 52 = .ok (.ldc 121, 2) := by decide +kernel
theorem dX9_chooseFew_54 : decode cX9_chooseFew 54 = .ok (.istore_n 3, 1) := by decide +kernel
theorem dX9_chooseFew_55 : decode cX9_chooseFew 55 = .ok (.iconst 1, 1) := by decide +kernel
theorem dX9_chooseFew_56 : decode cX9_chooseFew 56 = .ok (.istore 4, 2) := by decide +kernel
theorem dX9_chooseFew_58 : decode cX9_chooseFew 58 = .ok (.iconst 0, 1) := by decide +kernel
theorem dX9_chooseFew_59 : decode cX9_chooseFew 59 = .ok (.istore 5, 2) := by decide +kernel
theorem dX9_chooseFew_61 : decode cX9_chooseFew 61 = .ok (.iload 5, 2) := by decide +kernel
theorem dX9_chooseFew_63 : decode cX9_chooseFew 63 = .ok (.sipush 300, 3) := by decide +kernel
theorem dX9_chooseFew_66 : decode cX9_chooseFew 66 = .ok (.if_icmp .ge 76, 3) := by decide +kernel
theorem dX9_chooseFew_69 : decode cX9_chooseFew 69 = .ok (.iload 4, 2) := by decide +kernel
theorem dX9_chooseFew_71 : decode cX9_chooseFew 71 = .ok (.ifCond .eq 71, 3) := by decide +kernel
theorem dX9_chooseFew_74 : decode cX9_chooseFew 74 = .ok (.aload_n 0, 1) := by decide +kernel
theorem dX9_chooseFew_75 : decode cX9_chooseFew 75 = .ok (.iload_n 1, 1) := by decide +kernel
theorem dX9_chooseFew_76 : decode cX9_chooseFew 76 = .ok (.iload_n 2, 1) := by decide +kernel
theorem dX9_chooseFew_77 : decode cX9_chooseFew 77 = .ok (.invokevirtual 249, 3) := by decide +kernel
theorem dX9_chooseFew_80 : decode cX9_chooseFew 80 = .ok (.aload_n 0, 1) := by decide +kernel
theorem dX9_chooseFew_81 : decode cX9_chooseFew 81 = .ok (.getfield 22, 3) := by decide +kernel
theorem dX9_chooseFew_84 : decode cX9_chooseFew 84 = .ok (.invokevirtual 253, 3) := by decide +kernel
theorem dX9_chooseFew_87 : decode cX9_chooseFew 87 = .ok (.istore 6, 2) := by decide +kernel
theorem dX9_chooseFew_89 : decode cX9_chooseFew 89 = .ok (.iload 6, 2) := by decide +kernel
theorem dX9_chooseFew_91 : decode cX9_chooseFew 91 = .ok (.ifCond .lt 33, 3) := by decide +kernel
theorem dX9_chooseFew_94 : decode cX9_chooseFew 94 = .ok (.iload_n 3, 1) := by decide +kernel
theorem dX9_chooseFew_95 : decode cX9_chooseFew 95 = .ok (.ifCond .lt 9, 3) := by decide +kernel
theorem dX9_chooseFew_98 : decode cX9_chooseFew 98 = .ok (.iload 6, 2) := by decide +kernel
theorem dX9_chooseFew_100 : decode cX9_chooseFew 100 = .ok (.iload_n 3, 1) := by decide +kernel
theorem dX9_chooseFew_101 : decode cX9_chooseFew 101 = .ok (.if_icmp .ge 23, 3) := by decide +kernel
theorem dX9_chooseFew_104 : decode cX9_chooseFew 104 = .ok (.iload 6, 2) := by decide +kernel
theorem dX9_chooseFew_106 : decode cX9_chooseFew 106 = .ok (.istore_n 3, 1) := by decide +kernel
theorem dX9_chooseFew_107 : decode cX9_chooseFew 107 = .ok (.aload_n 0, 1) := by decide +kernel
theorem dX9_chooseFew_108 : decode cX9_chooseFew 108 = .ok (.getfield 22, 3) := by decide +kernel
theorem dX9_chooseFew_111 : decode cX9_chooseFew 111 = .ok (.getfield 256, 3) := by decide +kernel
theorem dX9_chooseFew_114 : decode cX9_chooseFew 114 = .ok (.iconst 0, 1) := by decide +kernel
theorem dX9_chooseFew_115 : decode cX9_chooseFew 115 = .ok (.aload_n 0, 1) := by decide +kernel
theorem dX9_chooseFew_116 : decode cX9_chooseFew 116 = .ok (.getfield 67, 3) := by decide +kernel
theorem dX9_chooseFew_119 : decode cX9_chooseFew 119 = .ok (.iconst 0, 1) := by decide +kernel
theorem dX9_chooseFew_120 : decode cX9_chooseFew 120 = .ok (.iload_n 1, 1) := by decide +kernel
theorem dX9_chooseFew_121 : decode cX9_chooseFew 121 = .ok (.invokestatic 259, 3) := by decide +kernel
theorem dX9_chooseFew_124 : decode cX9_chooseFew 124 = .ok (.aload_n 0, 1) := by decide +kernel
theorem dX9_chooseFew_125 : decode cX9_chooseFew 125 = .ok (.iload_n 1, 1) := by decide +kernel
theorem dX9_chooseFew_126 : decode cX9_chooseFew 126 = .ok (.iconst 1, 1) := by decide +kernel
theorem dX9_chooseFew_127 : decode cX9_chooseFew 127 = .ok (.isub, 1) := by decide +kernel
theorem dX9_chooseFew_128 : decode cX9_chooseFew 128 = .ok (.iload_n 2, 1) := by decide +kernel
theorem dX9_chooseFew_129 : decode cX9_chooseFew 129 = .ok (.iconst 1, 1) := by decide +kernel
theorem dX9_chooseFew_130 : decode cX9_chooseFew 130 = .ok (.isub, 1) := by decide +kernel
theorem dX9_chooseFew_131 : decode cX9_chooseFew 131 = .ok (.invokevirtual 265, 3) := by decide +kernel
theorem dX9_chooseFew_134 : decode cX9_chooseFew 134 = .ok (.istore 4, 2) := by decide +kernel
theorem dX9_chooseFew_136 : decode cX9_chooseFew 136 = .ok (.iinc 5 1, 3) := by decide +kernel
theorem dX9_chooseFew_139 : decode cX9_chooseFew 139 = .ok (.goto (-78), 3) := by decide +kernel
theorem dX9_chooseFew_142 : decode cX9_chooseFew 142 = .ok (.iload_n 3, 1) := by decide +kernel
theorem dX9_chooseFew_143 : decode cX9_chooseFew 143 = .ok (.ireturn, 1) := by decide +kernel
theorem dX9_usePick_0 : decode cX9_usePick 0 = .ok (.iconst 0, 1) := by decide +kernel
theorem dX9_usePick_1 : decode cX9_usePick 1 = .ok (.istore_n 3, 1) := by decide +kernel
theorem dX9_usePick_2 : decode cX9_usePick 2 = .ok (.iload_n 3, 1) := by decide +kernel
theorem dX9_usePick_3 : decode cX9_usePick 3 = .ok (.iload_n 1, 1) := by decide +kernel
theorem dX9_usePick_4 : decode cX9_usePick 4 = .ok (.iconst 1, 1) := by decide +kernel
theorem dX9_usePick_5 : decode cX9_usePick 5 = .ok (.isub, 1) := by decide +kernel
theorem dX9_usePick_6 : decode cX9_usePick 6 = .ok (.if_icmp .ge 29, 3) := by decide +kernel
theorem dX9_usePick_9 : decode cX9_usePick 9 = .ok (.aload_n 0, 1) := by decide +kernel
theorem dX9_usePick_10 : decode cX9_usePick 10 = .ok (.getfield 22, 3) := by decide +kernel
theorem dX9_usePick_13 : decode cX9_usePick 13 = .ok (.getfield 256, 3) := by decide +kernel
theorem dX9_usePick_16 : decode cX9_usePick 16 = .ok (.iload_n 3, 1) := by decide +kernel
theorem dX9_usePick_17 : decode cX9_usePick 17 = .ok (.aload_n 0, 1) := by decide +kernel
theorem dX9_usePick_18 : decode cX9_usePick 18 = .ok (.getfield 61, 3) := by decide +kernel
theorem dX9_usePick_21 : decode cX9_usePick 21 = .ok (.aload_n 0, 1) := by decide +kernel
theorem dX9_usePick_22 : decode cX9_usePick 22 = .ok (.getfield 64, 3) := by decide +kernel
theorem dX9_usePick_25 : decode cX9_usePick 25 = .ok (.iload_n 3, 1) := by decide +kernel
theorem dX9_usePick_26 : decode cX9_usePick 26 = .ok (.iaload, 1) := by decide +kernel
theorem dX9_usePick_27 : decode cX9_usePick 27 = .ok (.iaload, 1) := by decide +kernel
theorem dX9_usePick_28 : decode cX9_usePick 28 = .ok (.iastore, 1) := by decide +kernel
theorem dX9_usePick_29 : decode cX9_usePick 29 = .ok (.iinc 3 1, 3) := by decide +kernel
theorem dX9_usePick_32 : decode cX9_usePick 32 = .ok (.goto (-30), 3) := by decide +kernel
theorem dX9_usePick_35 : decode cX9_usePick 35 = .ok (.aload_n 0, 1) := by decide +kernel
theorem dX9_usePick_36 : decode cX9_usePick 36 = .ok (.getfield 22, 3) := by decide +kernel
theorem dX9_usePick_39 : decode cX9_usePick 39 = .ok (.getfield 256, 3) := by decide +kernel
theorem dX9_usePick_42 : decode cX9_usePick 42 = .ok (.iload_n 1, 1) := by decide +kernel
theorem dX9_usePick_43 : decode cX9_usePick 43 = .ok (.iconst 1, 1) := by decide +kernel
theorem dX9_usePick_44 : decode cX9_usePick 44 = .ok (.isub, 1) := by decide +kernel
theorem dX9_usePick_45 : decode cX9_usePick 45 = .ok (.aload_n 0, 1) := by decide +kernel
theorem dX9_usePick_46 : decode cX9_usePick 46 = .ok (.getfield 61, 3) := by decide +kernel
theorem dX9_usePick_49 : decode cX9_usePick 49 = .ok (.iload_n 2, 1) := by decide +kernel
theorem dX9_usePick_50 : decode cX9_usePick 50 = .ok (.iconst 1, 1) := by decide +kernel
theorem dX9_usePick_51 : decode cX9_usePick 51 = .ok (.isub, 1) := by decide +kernel
theorem dX9_usePick_52 : decode cX9_usePick 52 = .ok (.iaload, 1) := by decide +kernel
theorem dX9_usePick_53 : decode cX9_usePick 53 = .ok (.iastore, 1) := by decide +kernel
theorem dX9_usePick_54 : decode cX9_usePick 54 = .ok (.aload_n 0, 1) := by decide +kernel
theorem dX9_usePick_55 : decode cX9_usePick 55 = .ok (.getfield 22, 3) := by decide +kernel
theorem dX9_usePick_58 : decode cX9_usePick 58 = .ok (.iload_n 1, 1) := by decide +kernel
theorem dX9_usePick_59 : decode cX9_usePick 59 = .ok (.putfield 268, 3) := by decide +kernel
theorem dX9_usePick_62 : decode cX9_usePick 62 = .ok (.return_, 1) := by decide +kernel
theorem dX9_nextPick_0 : decode cX9_nextPick 0 = .ok (.iload_n 1, 1) := by decide +kernel
theorem dX9_nextPick_1 : decode cX9_nextPick 1 = .ok (.iconst 1, 1) := by decide +kernel
theorem dX9_nextPick_2 : decode cX9_nextPick 2 = .ok (.isub, 1) := by decide +kernel
theorem dX9_nextPick_3 : decode cX9_nextPick 3 = .ok (.istore_n 3, 1) := by decide +kernel
theorem dX9_nextPick_4 : decode cX9_nextPick 4 = .ok (.iload_n 3, 1) := by decide +kernel
theorem dX9_nextPick_5 : decode cX9_nextPick 5 = .ok (.ifCond .lt 70, 3) := by decide +kernel
theorem dX9_nextPick_8 : decode cX9_nextPick 8 = .ok (.aload_n 0, 1) := by decide +kernel
theorem dX9_nextPick_9 : decode cX9_nextPick 9 = .ok (.getfield 64, 3) := by decide +kernel
theorem dX9_nextPick_12 : decode cX9_nextPick 12 = .ok (.iload_n 3, 1) := by decide +kernel
theorem dX9_nextPick_13 : decode cX9_nextPick 13 = .ok (.iaload, 1) := by decide +kernel
theorem dX9_nextPick_14 : decode cX9_nextPick 14 = .ok (.iload_n 2, 1) := by decide +kernel
theorem dX9_nextPick_15 : decode cX9_nextPick 15 = .ok (.iload_n 1, 1) := by decide +kernel
theorem dX9_nextPick_16 : decode cX9_nextPick 16 = .ok (.iload_n 3, 1) := by decide +kernel
theorem dX9_nextPick_17 : decode cX9_nextPick 17 = .ok (.isub, 1) := by decide +kernel
theorem dX9_nextPick_18 : decode cX9_nextPick 18 = .ok (.isub, 1) := by decide +kernel
theorem dX9_nextPick_19 : decode cX9_nextPick 19 = .ok (.if_icmp .ge 50, 3) := by decide +kernel
theorem dX9_nextPick_22 : decode cX9_nextPick 22 = .ok (.aload_n 0, 1) := by decide +kernel
theorem dX9_nextPick_23 : decode cX9_nextPick 23 = .ok (.getfield 64, 3) := by decide +kernel
theorem dX9_nextPick_26 : decode cX9_nextPick 26 = .ok (.iload_n 3, 1) := by decide +kernel
theorem dX9_nextPick_27 : decode cX9_nextPick 27 = .ok (.dup2, 1) := by decide +kernel
theorem dX9_nextPick_28 : decode cX9_nextPick 28 = .ok (.iaload, 1) := by decide +kernel
theorem dX9_nextPick_29 : decode cX9_nextPick 29 = .ok (.iconst 1, 1) := by decide +kernel
theorem dX9_nextPick_30 : decode cX9_nextPick 30 = .ok (.iadd, 1) := by decide +kernel
theorem dX9_nextPick_31 : decode cX9_nextPick 31 = .ok (.iastore, 1) := by decide +kernel
theorem dX9_nextPick_32 : decode cX9_nextPick 32 = .ok (.iload_n 3, 1) := by decide +kernel
theorem dX9_nextPick_33 : decode cX9_nextPick 33 = .ok (.iconst 1, 1) := by decide +kernel
theorem dX9_nextPick_34 : decode cX9_nextPick 34 = .ok (.iadd, 1) := by decide +kernel
theorem dX9_nextPick_35 : decode cX9_nextPick 35 = .ok (.istore 4, 2) := by decide +kernel
theorem dX9_nextPick_37 : decode cX9_nextPick 37 = .ok (.iload 4, 2) := by decide +kernel
theorem dX9_nextPick_39 : decode cX9_nextPick 39 = .ok (.iload_n 1, 1) := by decide +kernel
theorem dX9_nextPick_40 : decode cX9_nextPick 40 = .ok (.if_icmp .ge 27, 3) := by decide +kernel
theorem dX9_nextPick_43 : decode cX9_nextPick 43 = .ok (.aload_n 0, 1) := by decide +kernel
theorem dX9_nextPick_44 : decode cX9_nextPick 44 = .ok (.getfield 64, 3) := by decide +kernel
theorem dX9_nextPick_47 : decode cX9_nextPick 47 = .ok (.iload 4, 2) := by decide +kernel
theorem dX9_nextPick_49 : decode cX9_nextPick 49 = .ok (.aload_n 0, 1) := by decide +kernel
theorem dX9_nextPick_50 : decode cX9_nextPick 50 = .ok (.getfield 64, 3) := by decide +kernel
theorem dX9_nextPick_53 : decode cX9_nextPick 53 = .ok (.iload 4, 2) := by decide +kernel
theorem dX9_nextPick_55 : decode cX9_nextPick 55 = .ok (.iconst 1, 1) := by decide +kernel
theorem dX9_nextPick_56 : decode cX9_nextPick 56 = .ok (.isub, 1) := by decide +kernel
theorem dX9_nextPick_57 : decode cX9_nextPick 57 = .ok (.iaload, 1) := by decide +kernel
theorem dX9_nextPick_58 : decode cX9_nextPick 58 = .ok (.iconst 1, 1) := by decide +kernel
theorem dX9_nextPick_59 : decode cX9_nextPick 59 = .ok (.iadd, 1) := by decide +kernel
theorem dX9_nextPick_60 : decode cX9_nextPick 60 = .ok (.iastore, 1) := by decide +kernel
theorem dX9_nextPick_61 : decode cX9_nextPick 61 = .ok (.iinc 4 1, 3) := by decide +kernel
theorem dX9_nextPick_64 : decode cX9_nextPick 64 = .ok (.goto (-27), 3) := by decide +kernel
theorem dX9_nextPick_67 : decode cX9_nextPick 67 = .ok (.iconst 1, 1) := by decide +kernel
theorem dX9_nextPick_68 : decode cX9_nextPick 68 = .ok (.ireturn, 1) := by decide +kernel
theorem dX9_nextPick_69 : decode cX9_nextPick 69 = .ok (.iinc 3 (-1), 3) := by decide +kernel
theorem dX9_nextPick_72 : decode cX9_nextPick 72 = .ok (.goto (-68), 3) := by decide +kernel
theorem dX9_nextPick_75 : decode cX9_nextPick 75 = .ok (.iconst 0, 1) := by decide +kernel
theorem dX9_nextPick_76 : decode cX9_nextPick 76 = .ok (.ireturn, 1) := by decide +kernel
theorem dX9_apart_0 : decode cX9_apart 0 = .ok (.iload_n 1, 1) := by decide +kernel
theorem dX9_apart_1 : decode cX9_apart 1 = .ok (.iconst 1, 1) := by decide +kernel
theorem dX9_apart_2 : decode cX9_apart 2 = .ok (.bipush 100, 2) := by decide +kernel
theorem dX9_apart_4 : decode cX9_apart 4 = .ok (.invokestatic 79, 3) := by decide +kernel
theorem dX9_apart_7 : decode cX9_apart 7 = .ok (.ifCond .ne 6, 3) := by decide +kernel
theorem dX9_apart_10 : decode cX9_apart 10 = .ok (.ldc 83, 2) := by decide +kernel
theorem dX9_apart_12 : decode cX9_apart 12 = .ok (.ireturn, 1) := by decide +kernel
theorem dX9_apart_13 : decode cX9_apart 13 = .ok (.aload_n 0, 1) := by decide +kernel
theorem dX9_apart_14 : decode cX9_apart 14 = .ok (.getfield 22, 3) := by decide +kernel
theorem dX9_apart_17 : decode cX9_apart 17 = .ok (.aload_n 0, 1) := by decide +kernel
theorem dX9_apart_18 : decode cX9_apart 18 = .ok (.getfield 10, 3) := by decide +kernel
theorem dX9_apart_21 : decode cX9_apart 21 = .ok (.invokevirtual 109, 3) := by decide +kernel
theorem dX9_apart_24 : decode cX9_apart 24 = .ok (.pop, 1) := by decide +kernel
theorem dX9_apart_25 : decode cX9_apart 25 = .ok (.aload_n 0, 1) := by decide +kernel
theorem dX9_apart_26 : decode cX9_apart 26 = .ok (.iload_n 1, 1) := by decide +kernel
theorem dX9_apart_27 : decode cX9_apart 27 = .ok (.invokevirtual 271, 3) := by decide +kernel
theorem dX9_apart_30 : decode cX9_apart 30 = .ok (.ireturn, 1) := by decide +kernel
theorem dX9_pricesApart_0 : decode cX9_pricesApart 0 = .ok (.aload_n 0, 1) := by decide +kernel
theorem dX9_pricesApart_1 : decode cX9_pricesApart 1 = .ok (.getfield 22, 3) := by decide +kernel
theorem dX9_pricesApart_4 : decode cX9_pricesApart 4 = .ok (.aload_n 0, 1) := by decide +kernel
theorem dX9_pricesApart_5 : decode cX9_pricesApart 5 = .ok (.getfield 10, 3) := by decide +kernel
theorem dX9_pricesApart_8 : decode cX9_pricesApart 8 = .ok (.iload_n 1, 1) := by decide +kernel
theorem dX9_pricesApart_9 : decode cX9_pricesApart 9 = .ok (.iconst 1, 1) := by decide +kernel
theorem dX9_pricesApart_10 : decode cX9_pricesApart 10 = .ok (.invokevirtual 274, 3) := by decide +kernel
theorem dX9_pricesApart_13 : decode cX9_pricesApart 13 = .ok (.aload_n 0, 1) := by decide +kernel
theorem dX9_pricesApart_14 : decode cX9_pricesApart 14 = .ok (.getfield 22, 3) := by decide +kernel
theorem dX9_pricesApart_17 : decode cX9_pricesApart 17 = .ok (.invokevirtual 253, 3) := by decide +kernel
theorem dX9_pricesApart_20 : decode cX9_pricesApart 20 = .ok (.istore_n 2, 1) := by decide +kernel
theorem dX9_pricesApart_21 : decode cX9_pricesApart 21 = .ok (.aload_n 0, 1) := by decide +kernel
theorem dX9_pricesApart_22 : decode cX9_pricesApart 22 = .ok (.getfield 22, 3) := by decide +kernel
theorem dX9_pricesApart_25 : decode cX9_pricesApart 25 = .ok (.aload_n 0, 1) := by decide +kernel
theorem dX9_pricesApart_26 : decode cX9_pricesApart 26 = .ok (.getfield 10, 3) := by decide +kernel
theorem dX9_pricesApart_29 : decode cX9_pricesApart 29 = .ok (.iload_n 1, 1) := by decide +kernel
theorem dX9_pricesApart_30 : decode cX9_pricesApart 30 = .ok (.iconst 0, 1) := by decide +kernel
theorem dX9_pricesApart_31 : decode cX9_pricesApart 31 = .ok (.invokevirtual 274, 3) := by decide +kernel
theorem dX9_pricesApart_34 : decode cX9_pricesApart 34 = .ok (.aload_n 0, 1) := by decide +kernel
theorem dX9_pricesApart_35 : decode cX9_pricesApart 35 = .ok (.getfield 22, 3) := by decide +kernel
theorem dX9_pricesApart_38 : decode cX9_pricesApart 38 = .ok (.invokevirtual 253, 3) := by decide +kernel
theorem dX9_pricesApart_41 : decode cX9_pricesApart 41 = .ok (.istore_n 3, 1) := by decide +kernel
theorem dX9_pricesApart_42 : decode cX9_pricesApart 42 = .ok (.iload_n 2, 1) := by decide +kernel
theorem dX9_pricesApart_43 : decode cX9_pricesApart 43 = .ok (.ifCond .lt 7, 3) := by decide +kernel
theorem dX9_pricesApart_46 : decode cX9_pricesApart 46 = .ok (.iload_n 3, 1) := by decide +kernel
theorem dX9_pricesApart_47 : decode cX9_pricesApart 47 = .ok (.ifCond .ge 8, 3) := by decide +kernel
theorem dX9_pricesApart_50 : decode cX9_pricesApart 50 = .ok (.ldc 121, 2) := by decide +kernel
theorem dX9_pricesApart_52 : decode cX9_pricesApart 52 = .ok (.goto 15, 3) := by decide +kernel
theorem dX9_pricesApart_55 : decode cX9_pricesApart 55 = .ok (.iload_n 2, 1) := by decide +kernel
theorem dX9_pricesApart_56 : decode cX9_pricesApart 56 = .ok (.iload_n 3, 1) := by decide +kernel
theorem dX9_pricesApart_57 : decode cX9_pricesApart 57 = .ok (.iadd, 1) := by decide +kernel
theorem dX9_pricesApart_58 : decode cX9_pricesApart 58 = .ok (.aload_n 0, 1) := by decide +kernel
theorem dX9_pricesApart_59 : decode cX9_pricesApart 59 = .ok (.getfield 10, 3) := by decide +kernel
theorem dX9_pricesApart_62 : decode cX9_pricesApart 62 = .ok (.iload_n 1, 1) := by decide +kernel
theorem dX9_pricesApart_63 : decode cX9_pricesApart 63 = .ok (.invokevirtual 278, 3) := by decide +kernel
theorem dX9_pricesApart_66 : decode cX9_pricesApart 66 = .ok (.iadd, 1) := by decide +kernel
theorem dX9_pricesApart_67 : decode cX9_pricesApart 67 = .ok (.ireturn, 1) := by decide +kernel
theorem dX9_edge_0 : decode cX9_edge 0 = .ok (.aload_n 0, 1) := by decide +kernel
theorem dX9_edge_1 : decode cX9_edge 1 = .ok (.getfield 22, 3) := by decide +kernel
theorem dX9_edge_4 : decode cX9_edge 4 = .ok (.aload_n 0, 1) := by decide +kernel
theorem dX9_edge_5 : decode cX9_edge 5 = .ok (.getfield 10, 3) := by decide +kernel
theorem dX9_edge_8 : decode cX9_edge 8 = .ok (.invokevirtual 109, 3) := by decide +kernel
theorem dX9_edge_11 : decode cX9_edge 11 = .ok (.pop, 1) := by decide +kernel
theorem dX9_edge_12 : decode cX9_edge 12 = .ok (.bipush 100, 2) := by decide +kernel
theorem dX9_edge_14 : decode cX9_edge 14 = .ok (.istore_n 1, 1) := by decide +kernel
theorem dX9_edge_15 : decode cX9_edge 15 = .ok (.aload_n 0, 1) := by decide +kernel
theorem dX9_edge_16 : decode cX9_edge 16 = .ok (.iload_n 1, 1) := by decide +kernel
theorem dX9_edge_17 : decode cX9_edge 17 = .ok (.invokevirtual 271, 3) := by decide +kernel
theorem dX9_edge_20 : decode cX9_edge 20 = .ok (.istore_n 2, 1) := by decide +kernel
theorem dX9_edge_21 : decode cX9_edge 21 = .ok (.bipush 99, 2) := by decide +kernel
theorem dX9_edge_23 : decode cX9_edge 23 = .ok (.istore_n 3, 1) := by decide +kernel
theorem dX9_edge_24 : decode cX9_edge 24 = .ok (.iload_n 3, 1) := by decide +kernel
theorem dX9_edge_25 : decode cX9_edge 25 = .ok (.iconst 1, 1) := by decide +kernel
theorem dX9_edge_26 : decode cX9_edge 26 = .ok (.if_icmp .lt 47, 3) := by decide +kernel
theorem dX9_edge_29 : decode cX9_edge 29 = .ok (.aload_n 0, 1) := by decide +kernel
theorem dX9_edge_30 : decode cX9_edge 30 = .ok (.getfield 10, 3) := by decide +kernel
theorem dX9_edge_33 : decode cX9_edge 33 = .ok (.iload_n 3, 1) := by decide +kernel
theorem dX9_edge_34 : decode cX9_edge 34 = .ok (.invokevirtual 281, 3) := by decide +kernel
theorem dX9_edge_37 : decode cX9_edge 37 = .ok (.ifCond .eq 30, 3) := by decide +kernel
theorem dX9_edge_40 : decode cX9_edge 40 = .ok (.aload_n 0, 1) := by decide +kernel
theorem dX9_edge_41 : decode cX9_edge 41 = .ok (.iload_n 3, 1) := by decide +kernel
theorem dX9_edge_42 : decode cX9_edge 42 = .ok (.invokevirtual 271, 3) := by decide +kernel
theorem dX9_edge_45 : decode cX9_edge 45 = .ok (.istore 4, 2) := by decide +kernel
theorem dX9_edge_47 : decode cX9_edge 47 = .ok (.iload 4, 2) := by decide +kernel
theorem dX9_edge_49 : decode cX9_edge 49 = .ok (.ifCond .lt 18, 3) := by decide +kernel
theorem dX9_edge_52 : decode cX9_edge 52 = .ok (.iload_n 2, 1) := by decide +kernel
theorem dX9_edge_53 : decode cX9_edge 53 = .ok (.ifCond .lt 9, 3) := by decide +kernel
theorem dX9_edge_56 : decode cX9_edge 56 = .ok (.iload 4, 2) := by decide +kernel
theorem dX9_edge_58 : decode cX9_edge 58 = .ok (.iload_n 2, 1) := by decide +kernel
theorem dX9_edge_59 : decode cX9_edge 59 = .ok (.if_icmp .ge 8, 3) := by decide +kernel
theorem dX9_edge_62 : decode cX9_edge 62 = .ok (.iload 4, 2) := by decide +kernel
theorem dX9_edge_64 : decode cX9_edge 64 = .ok (.istore_n 2, 1) := by decide +kernel
theorem dX9_edge_65 : decode cX9_edge 65 = .ok (.iload_n 3, 1) := by decide +kernel
theorem dX9_edge_66 : decode cX9_edge 66 = .ok (.istore_n 1, 1) := by decide +kernel
theorem dX9_edge_67 : decode cX9_edge 67 = .ok (.iinc 3 (-1), 3) := by decide +kernel
theorem dX9_edge_70 : decode cX9_edge 70 = .ok (.goto (-46), 3) := by decide +kernel
theorem dX9_edge_73 : decode cX9_edge 73 = .ok (.iload_n 2, 1) := by decide +kernel
theorem dX9_edge_74 : decode cX9_edge 74 = .ok (.ifCond .ge 8, 3) := by decide +kernel
theorem dX9_edge_77 : decode cX9_edge 77 = .ok (.ldc 121, 2) := by decide +kernel
theorem dX9_edge_79 : decode cX9_edge 79 = .ok (.goto 4, 3) := by decide +kernel
theorem dX9_edge_82 : decode cX9_edge 82 = .ok (.iload_n 1, 1) := by decide +kernel
theorem dX9_edge_83 : decode cX9_edge 83 = .ok (.ireturn, 1) := by decide +kernel
theorem dX9_feed_0 : decode cX9_feed 0 = .ok (.aload_n 0, 1) := by decide +kernel
theorem dX9_feed_1 : decode cX9_feed 1 = .ok (.getfield 44, 3) := by decide +kernel
theorem dX9_feed_4 : decode cX9_feed 4 = .ok (.getfield 284, 3) := by decide +kernel
theorem dX9_feed_7 : decode cX9_feed 7 = .ok (.bipush 84, 2) := by decide +kernel
theorem dX9_feed_9 : decode cX9_feed 9 = .ok (.if_icmp .le 6, 3) := by decide +kernel
theorem dX9_feed_12 : decode cX9_feed 12 = .ok (.ldc 88, 2) := by decide +kernel
theorem dX9_feed_14 : decode cX9_feed 14 = .ok (.ireturn, 1) := by decide +kernel
theorem dX9_feed_15 : decode cX9_feed 15 = .ok (.aload_n 0, 1) := by decide +kernel
theorem dX9_feed_16 : decode cX9_feed 16 = .ok (.getfield 44, 3) := by decide +kernel
theorem dX9_feed_19 : decode cX9_feed 19 = .ok (.iload_n 1, 1) := by decide +kernel
theorem dX9_feed_20 : decode cX9_feed 20 = .ok (.invokevirtual 289, 3) := by decide +kernel
theorem dX9_feed_23 : decode cX9_feed 23 = .ok (.aload_n 0, 1) := by decide +kernel
theorem dX9_feed_24 : decode cX9_feed 24 = .ok (.getfield 44, 3) := by decide +kernel
theorem dX9_feed_27 : decode cX9_feed 27 = .ok (.iload_n 2, 1) := by decide +kernel
theorem dX9_feed_28 : decode cX9_feed 28 = .ok (.invokevirtual 289, 3) := by decide +kernel
theorem dX9_feed_31 : decode cX9_feed 31 = .ok (.aload_n 0, 1) := by decide +kernel
theorem dX9_feed_32 : decode cX9_feed 32 = .ok (.getfield 44, 3) := by decide +kernel
theorem dX9_feed_35 : decode cX9_feed 35 = .ok (.iload_n 3, 1) := by decide +kernel
theorem dX9_feed_36 : decode cX9_feed 36 = .ok (.invokevirtual 289, 3) := by decide +kernel
theorem dX9_feed_39 : decode cX9_feed 39 = .ok (.aload_n 0, 1) := by decide +kernel
theorem dX9_feed_40 : decode cX9_feed 40 = .ok (.getfield 44, 3) := by decide +kernel
theorem dX9_feed_43 : decode cX9_feed 43 = .ok (.getfield 284, 3) := by decide +kernel
theorem dX9_feed_46 : decode cX9_feed 46 = .ok (.ireturn, 1) := by decide +kernel
theorem dX9_trim_0 : decode cX9_trim 0 = .ok (.iload_n 1, 1) := by decide +kernel
theorem dX9_trim_1 : decode cX9_trim 1 = .ok (.iconst 0, 1) := by decide +kernel
theorem dX9_trim_2 : decode cX9_trim 2 = .ok (.aload_n 0, 1) := by decide +kernel
theorem dX9_trim_3 : decode cX9_trim 3 = .ok (.getfield 44, 3) := by decide +kernel
theorem dX9_trim_6 : decode cX9_trim 6 = .ok (.getfield 284, 3) := by decide +kernel
theorem dX9_trim_9 : decode cX9_trim 9 = .ok (.invokestatic 79, 3) := by decide +kernel
theorem dX9_trim_12 : decode cX9_trim 12 = .ok (.ifCond .ne 6, 3) := by decide +kernel
theorem dX9_trim_15 : decode cX9_trim 15 = .ok (.ldc 83, 2) := by decide +kernel
theorem dX9_trim_17 : decode cX9_trim 17 = .ok (.ireturn, 1) := by decide +kernel
theorem dX9_trim_18 : decode cX9_trim 18 = .ok (.aload_n 0, 1) := by decide +kernel
theorem dX9_trim_19 : decode cX9_trim 19 = .ok (.getfield 44, 3) := by decide +kernel
theorem dX9_trim_22 : decode cX9_trim 22 = .ok (.iload_n 1, 1) := by decide +kernel
theorem dX9_trim_23 : decode cX9_trim 23 = .ok (.putfield 284, 3) := by decide +kernel
theorem dX9_trim_26 : decode cX9_trim 26 = .ok (.iload_n 1, 1) := by decide +kernel
theorem dX9_trim_27 : decode cX9_trim 27 = .ok (.ireturn, 1) := by decide +kernel
theorem dX9_text_0 : decode cX9_text 0 = .ok (.aload_n 0, 1) := by decide +kernel
theorem dX9_text_1 : decode cX9_text 1 = .ok (.getfield 36, 3) := by decide +kernel
theorem dX9_text_4 : decode cX9_text 4 = .ok (.invokevirtual 293, 3) := by decide +kernel
theorem dX9_text_7 : decode cX9_text 7 = .ok (.astore_n 1, 1) := by decide +kernel
theorem dX9_text_8 : decode cX9_text 8 = .ok (.aload_n 0, 1) := by decide +kernel
theorem dX9_text_9 : decode cX9_text 9 = .ok (.getfield 44, 3) := by decide +kernel
theorem dX9_text_12 : decode cX9_text 12 = .ok (.iconst 0, 1) := by decide +kernel
theorem dX9_text_13 : decode cX9_text 13 = .ok (.putfield 284, 3) := by decide +kernel
theorem dX9_text_16 : decode cX9_text 16 = .ok (.aload_n 1, 1) := by decide +kernel
theorem dX9_text_17 : decode cX9_text 17 = .ok (.ifnonnull 14, 3) := by decide +kernel
theorem dX9_text_20 : decode cX9_text 20 = .ok (.bipush (-100), 2) := by decide +kernel
theorem dX9_text_22 : decode cX9_text 22 = .ok (.aload_n 0, 1) := by decide +kernel
theorem dX9_text_23 : decode cX9_text 23 = .ok (.getfield 44, 3) := by decide +kernel
theorem dX9_text_26 : decode cX9_text 26 = .ok (.getfield 297, 3) := by decide +kernel
theorem dX9_text_29 : decode cX9_text 29 = .ok (.isub, 1) := by decide +kernel
theorem dX9_text_30 : decode cX9_text 30 = .ok (.ireturn, 1) := by decide +kernel
theorem dX9_text_31 : decode cX9_text 31 = .ok (.aload_n 0, 1) := by decide +kernel
theorem dX9_text_32 : decode cX9_text 32 = .ok (.getfield 10, 3) := by decide +kernel
theorem dX9_text_35 : decode cX9_text 35 = .ok (.getfield 300, 3) := by decide +kernel
theorem dX9_text_38 : decode cX9_text 38 = .ok (.bipush 14, 2) := by decide +kernel
theorem dX9_text_40 : decode cX9_text 40 = .ok (.if_icmp .lt 6, 3) := by decide +kernel
theorem dX9_text_43 : decode cX9_text 43 = .ok (.ldc 88, 2) := by decide +kernel
theorem dX9_text_45 : decode cX9_text 45 = .ok (.ireturn, 1) := by decide +kernel
theorem dX9_text_46 : decode cX9_text 46 = .ok (.aload_n 0, 1) := by decide +kernel
theorem dX9_text_47 : decode cX9_text 47 = .ok (.getfield 10, 3) := by decide +kernel
theorem dX9_text_50 : decode cX9_text 50 = .ok (.aload_n 1, 1) := by decide +kernel
theorem dX9_text_51 : decode cX9_text 51 = .ok (.invokevirtual 303, 3) := by decide +kernel
theorem dX9_text_54 : decode cX9_text 54 = .ok (.ireturn, 1) := by decide +kernel
theorem dX9_textTold_0 : decode cX9_textTold 0 = .ok (.aload_n 0, 1) := by decide +kernel
theorem dX9_textTold_1 : decode cX9_textTold 1 = .ok (.getfield 10, 3) := by decide +kernel
theorem dX9_textTold_4 : decode cX9_textTold 4 = .ok (.iload_n 1, 1) := by decide +kernel
theorem dX9_textTold_5 : decode cX9_textTold 5 = .ok (.invokevirtual 307, 3) := by decide +kernel
theorem dX9_textTold_8 : decode cX9_textTold 8 = .ok (.astore_n 3, 1) := by decide +kernel
theorem dX9_textTold_9 : decode cX9_textTold 9 = .ok (.aload_n 3, 1) := by decide +kernel
theorem dX9_textTold_10 : decode cX9_textTold 10 = .ok (.ifnull 12, 3) := by decide +kernel
theorem dX9_textTold_13 : decode cX9_textTold 13 = .ok (.iload_n 2, 1) := by decide +kernel
theorem dX9_textTold_14 : decode cX9_textTold 14 = .ok (.iconst 0, 1) := by decide +kernel
theorem dX9_textTold_15 : decode cX9_textTold 15 = .ok (.iconst 1, 1) := by decide +kernel
theorem dX9_textTold_16 : decode cX9_textTold 16 = .ok (.invokestatic 79, 3) := by decide +kernel
theorem dX9_textTold_19 : decode cX9_textTold 19 = .ok (.ifCond .ne 6, 3) := by decide +kernel
theorem dX9_textTold_22 : decode cX9_textTold 22 = .ok (.ldc 83, 2) := by decide +kernel
theorem dX9_textTold_24 : decode cX9_textTold 24 = .ok (.ireturn, 1) := by decide +kernel
theorem dX9_textTold_25 : decode cX9_textTold 25 = .ok (.iload_n 2, 1) := by decide +kernel
theorem dX9_textTold_26 : decode cX9_textTold 26 = .ok (.ifCond .ne 10, 3) := by decide +kernel
theorem dX9_textTold_29 : decode cX9_textTold 29 = .ok (.aload_n 3, 1) := by decide +kernel
theorem dX9_textTold_30 : decode cX9_textTold 30 = .ok (.getfield 311, 3) := by decide +kernel
theorem dX9_textTold_33 : decode cX9_textTold 33 = .ok (.goto 7, 3) := by decide +kernel
theorem dX9_textTold_36 : decode cX9_textTold 36 = .ok (.aload_n 3, 1) := by decide +kernel
theorem dX9_textTold_37 : decode cX9_textTold 37 = .ok (.getfield 316, 3) := by decide +kernel
theorem dX9_textTold_40 : decode cX9_textTold 40 = .ok (.ireturn, 1) := by decide +kernel
theorem dX9_why_0 : decode cX9_why 0 = .ok (.iload_n 1, 1) := by decide +kernel
theorem dX9_why_1 : decode cX9_why 1 = .ok (.iconst 0, 1) := by decide +kernel
theorem dX9_why_2 : decode cX9_why 2 = .ok (.iconst 2, 1) := by decide +kernel
theorem dX9_why_3 : decode cX9_why 3 = .ok (.invokestatic 79, 3) := by decide +kernel
theorem dX9_why_6 : decode cX9_why 6 = .ok (.ifCond .ne 6, 3) := by decide +kernel
theorem dX9_why_9 : decode cX9_why 9 = .ok (.ldc 83, 2) := by decide +kernel
theorem dX9_why_11 : decode cX9_why 11 = .ok (.ireturn, 1) := by decide +kernel
theorem dX9_why_12 : decode cX9_why 12 = .ok (.aload_n 0, 1) := by decide +kernel
theorem dX9_why_13 : decode cX9_why 13 = .ok (.getfield 10, 3) := by decide +kernel
theorem dX9_why_16 : decode cX9_why 16 = .ok (.iload_n 1, 1) := by decide +kernel
theorem dX9_why_17 : decode cX9_why 17 = .ok (.invokevirtual 319, 3) := by decide +kernel
theorem dX9_why_20 : decode cX9_why 20 = .ok (.ireturn, 1) := by decide +kernel
theorem dX9_fullBy_0 : decode cX9_fullBy 0 = .ok (.aload_n 0, 1) := by decide +kernel
theorem dX9_fullBy_1 : decode cX9_fullBy 1 = .ok (.getfield 22, 3) := by decide +kernel
theorem dX9_fullBy_4 : decode cX9_fullBy 4 = .ok (.aload_n 0, 1) := by decide +kernel
theorem dX9_fullBy_5 : decode cX9_fullBy 5 = .ok (.getfield 10, 3) := by decide +kernel
theorem dX9_fullBy_8 : decode cX9_fullBy 8 = .ok (.invokevirtual 109, 3) := by decide +kernel
theorem dX9_fullBy_11 : decode cX9_fullBy 11 = .ok (.invokevirtual 113, 3) := by decide +kernel
theorem dX9_fullBy_14 : decode cX9_fullBy 14 = .ok (.ifCond .eq 13, 3) := by decide +kernel
theorem dX9_fullBy_17 : decode cX9_fullBy 17 = .ok (.aload_n 0, 1) := by decide +kernel
theorem dX9_fullBy_18 : decode cX9_fullBy 18 = .ok (.getfield 22, 3) := by decide +kernel
theorem dX9_fullBy_21 : decode cX9_fullBy 21 = .ok (.getfield 209, 3) := by decide +kernel
theorem dX9_fullBy_24 : decode cX9_fullBy 24 = .ok (.ifCond .ne 6, 3) := by decide +kernel
theorem dX9_fullBy_27 : decode cX9_fullBy 27 = .ok (.ldc 121, 2) := by decide +kernel
theorem dX9_fullBy_29 : decode cX9_fullBy 29 = .ok (.ireturn, 1) := by decide +kernel
theorem dX9_fullBy_30 : decode cX9_fullBy 30 = .ok (.aload_n 0, 1) := by decide +kernel
theorem dX9_fullBy_31 : decode cX9_fullBy 31 = .ok (.getfield 29, 3) := by decide +kernel
theorem dX9_fullBy_34 : decode cX9_fullBy 34 = .ok (.aload_n 0, 1) := by decide +kernel
theorem dX9_fullBy_35 : decode cX9_fullBy 35 = .ok (.getfield 10, 3) := by decide +kernel
theorem dX9_fullBy_38 : decode cX9_fullBy 38 = .ok (.aload_n 0, 1) := by decide +kernel
theorem dX9_fullBy_39 : decode cX9_fullBy 39 = .ok (.getfield 22, 3) := by decide +kernel
theorem dX9_fullBy_42 : decode cX9_fullBy 42 = .ok (.invokevirtual 322, 3) := by decide +kernel
theorem dX9_fullBy_45 : decode cX9_fullBy 45 = .ok (.iconst 1, 1) := by decide +kernel
theorem dX9_fullBy_46 : decode cX9_fullBy 46 = .ok (.istore_n 1, 1) := by decide +kernel
theorem dX9_fullBy_47 : decode cX9_fullBy 47 = .ok (.iload_n 1, 1) := by decide +kernel
theorem dX9_fullBy_48 : decode cX9_fullBy 48 = .ok (.bipush 60, 2) := by decide +kernel
theorem dX9_fullBy_50 : decode cX9_fullBy 50 = .ok (.if_icmp .gt 36, 3) := by decide +kernel
theorem dX9_fullBy_53 : decode cX9_fullBy 53 = .ok (.aload_n 0, 1) := by decide +kernel
theorem dX9_fullBy_54 : decode cX9_fullBy 54 = .ok (.getfield 29, 3) := by decide +kernel
theorem dX9_fullBy_57 : decode cX9_fullBy 57 = .ok (.iload_n 1, 1) := by decide +kernel
theorem dX9_fullBy_58 : decode cX9_fullBy 58 = .ok (.invokevirtual 326, 3) := by decide +kernel
theorem dX9_fullBy_61 : decode cX9_fullBy 61 = .ok (.aload_n 0, 1) := by decide +kernel
theorem dX9_fullBy_62 : decode cX9_fullBy 62 = .ok (.getfield 29, 3) := by decide +kernel
theorem dX9_fullBy_65 : decode cX9_fullBy 65 = .ok (.invokevirtual 329, 3) := by decide +kernel
theorem dX9_fullBy_68 : decode cX9_fullBy 68 = .ok (.aload_n 0, 1) := by decide +kernel
theorem dX9_fullBy_69 : decode cX9_fullBy 69 = .ok (.getfield 10, 3) := by decide +kernel
theorem dX9_fullBy_72 : decode cX9_fullBy 72 = .ok (.getfield 135, 3) := by decide +kernel
theorem dX9_fullBy_75 : decode cX9_fullBy 75 = .ok (.if_icmp .le 5, 3) := by decide +kernel
theorem dX9_fullBy_78 : decode cX9_fullBy 78 = .ok (.iload_n 1, 1) := by decide +kernel
theorem dX9_fullBy_79 : decode cX9_fullBy 79 = .ok (.ireturn, 1) := by decide +kernel
theorem dX9_fullBy_80 : decode cX9_fullBy 80 = .ok (.iinc 1 1, 3) := by decide +kernel
theorem dX9_fullBy_83 : decode cX9_fullBy 83 = .ok (.goto (-36), 3) := by decide +kernel
theorem dX9_fullBy_86 : decode cX9_fullBy 86 = .ok (.ldc 121, 2) := by decide +kernel
theorem dX9_fullBy_88 : decode cX9_fullBy 88 = .ok (.ireturn, 1) := by decide +kernel
theorem dX9_most_0 : decode cX9_most 0 = .ok (.iload_n 1, 1) := by decide +kernel
theorem dX9_most_1 : decode cX9_most 1 = .ok (.iconst 0, 1) := by decide +kernel
theorem dX9_most_2 : decode cX9_most 2 = .ok (.bipush 60, 2) := by decide +kernel
theorem dX9_most_4 : decode cX9_most 4 = .ok (.invokestatic 79, 3) := by decide +kernel
theorem dX9_most_7 : decode cX9_most 7 = .ok (.ifCond .eq 12, 3) := by decide +kernel
theorem dX9_most_10 : decode cX9_most 10 = .ok (.iload_n 2, 1) := by decide +kernel
theorem dX9_most_11 : decode cX9_most 11 = .ok (.iconst 0, 1) := by decide +kernel
theorem dX9_most_12 : decode cX9_most 12 = .ok (.iconst 1, 1) := by decide +kernel
theorem dX9_most_13 : decode cX9_most 13 = .ok (.invokestatic 79, 3) := by decide +kernel
theorem dX9_most_16 : decode cX9_most 16 = .ok (.ifCond .ne 6, 3) := by decide +kernel
theorem dX9_most_19 : decode cX9_most 19 = .ok (.ldc 83, 2) := by decide +kernel
theorem dX9_most_21 : decode cX9_most 21 = .ok (.ireturn, 1) := by decide +kernel
theorem dX9_most_22 : decode cX9_most 22 = .ok (.aload_n 0, 1) := by decide +kernel
theorem dX9_most_23 : decode cX9_most 23 = .ok (.getfield 22, 3) := by decide +kernel
theorem dX9_most_26 : decode cX9_most 26 = .ok (.aload_n 0, 1) := by decide +kernel
theorem dX9_most_27 : decode cX9_most 27 = .ok (.getfield 10, 3) := by decide +kernel
theorem dX9_most_30 : decode cX9_most 30 = .ok (.invokevirtual 109, 3) := by decide +kernel
theorem dX9_most_33 : decode cX9_most 33 = .ok (.invokevirtual 113, 3) := by decide +kernel
theorem dX9_most_36 : decode cX9_most 36 = .ok (.ifCond .eq 13, 3) := by decide +kernel
theorem dX9_most_39 : decode cX9_most 39 = .ok (.aload_n 0, 1) := by decide +kernel
theorem dX9_most_40 : decode cX9_most 40 = .ok (.getfield 22, 3) := by decide +kernel
theorem dX9_most_43 : decode cX9_most 43 = .ok (.getfield 209, 3) := by decide +kernel
theorem dX9_most_46 : decode cX9_most 46 = .ok (.ifCond .ne 6, 3) := by decide +kernel
theorem dX9_most_49 : decode cX9_most 49 = .ok (.ldc 121, 2) := by decide +kernel
theorem dX9_most_51 : decode cX9_most 51 = .ok (.ireturn, 1) := by decide +kernel
theorem dX9_most_52 : decode cX9_most 52 = .ok (.aload_n 0, 1) := by decide +kernel
theorem dX9_most_53 : decode cX9_most 53 = .ok (.getfield 29, 3) := by decide +kernel
theorem dX9_most_56 : decode cX9_most 56 = .ok (.aload_n 0, 1) := by decide +kernel
theorem dX9_most_57 : decode cX9_most 57 = .ok (.getfield 10, 3) := by decide +kernel
theorem dX9_most_60 : decode cX9_most 60 = .ok (.aload_n 0, 1) := by decide +kernel
theorem dX9_most_61 : decode cX9_most 61 = .ok (.getfield 22, 3) := by decide +kernel
theorem dX9_most_64 : decode cX9_most 64 = .ok (.invokevirtual 322, 3) := by decide +kernel
theorem dX9_most_67 : decode cX9_most 67 = .ok (.iconst 1, 1) := by decide +kernel
theorem dX9_most_68 : decode cX9_most 68 = .ok (.istore_n 3, 1) := by decide +kernel
theorem dX9_most_69 : decode cX9_most 69 = .ok (.iload_n 3, 1) := by decide +kernel
theorem dX9_most_70 : decode cX9_most 70 = .ok (.iload_n 1, 1) := by decide +kernel
theorem dX9_most_71 : decode cX9_most 71 = .ok (.if_icmp .gt 17, 3) := by decide +kernel
theorem dX9_most_74 : decode cX9_most 74 = .ok (.aload_n 0, 1) := by decide +kernel
theorem dX9_most_75 : decode cX9_most 75 = .ok (.getfield 29, 3) := by decide +kernel
theorem dX9_most_78 : decode cX9_most 78 = .ok (.iload_n 3, 1) := by decide +kernel
theorem dX9_most_79 : decode cX9_most 79 = .ok (.invokevirtual 326, 3) := by decide +kernel
theorem dX9_most_82 : decode cX9_most 82 = .ok (.iinc 3 1, 3) := by decide +kernel
theorem dX9_most_85 : decode cX9_most 85 = .ok (.goto (-16), 3) := by decide +kernel
theorem dX9_most_88 : decode cX9_most 88 = .ok (.iload_n 2, 1) := by decide +kernel
theorem dX9_most_89 : decode cX9_most 89 = .ok (.ifCond .ne 13, 3) := by decide +kernel
theorem dX9_most_92 : decode cX9_most 92 = .ok (.aload_n 0, 1) := by decide +kernel
theorem dX9_most_93 : decode cX9_most 93 = .ok (.getfield 29, 3) := by decide +kernel
theorem dX9_most_96 : decode cX9_most 96 = .ok (.invokevirtual 332, 3) := by decide +kernel
theorem dX9_most_99 : decode cX9_most 99 = .ok (.goto 10, 3) := by decide +kernel
theorem dX9_most_102 : decode cX9_most 102 = .ok (.aload_n 0, 1) := by decide +kernel
theorem dX9_most_103 : decode cX9_most 103 = .ok (.getfield 29, 3) := by decide +kernel
theorem dX9_most_106 : decode cX9_most 106 = .ok (.invokevirtual 329, 3) := by decide +kernel
theorem dX9_most_109 : decode cX9_most 109 = .ok (.ireturn, 1) := by decide +kernel
theorem dX9_wall_0 : decode cX9_wall 0 = .ok (.iload_n 1, 1) := by decide +kernel
theorem dX9_wall_1 : decode cX9_wall 1 = .ok (.iconst 0, 1) := by decide +kernel
theorem dX9_wall_2 : decode cX9_wall 2 = .ok (.bipush 24, 2) := by decide +kernel
theorem dX9_wall_4 : decode cX9_wall 4 = .ok (.invokestatic 79, 3) := by decide +kernel
theorem dX9_wall_7 : decode cX9_wall 7 = .ok (.ifCond .eq 13, 3) := by decide +kernel
theorem dX9_wall_10 : decode cX9_wall 10 = .ok (.iload_n 2, 1) := by decide +kernel
theorem dX9_wall_11 : decode cX9_wall 11 = .ok (.iconst 1, 1) := by decide +kernel
theorem dX9_wall_12 : decode cX9_wall 12 = .ok (.bipush 99, 2) := by decide +kernel
theorem dX9_wall_14 : decode cX9_wall 14 = .ok (.invokestatic 79, 3) := by decide +kernel
theorem dX9_wall_17 : decode cX9_wall 17 = .ok (.ifCond .ne 6, 3) := by decide +kernel
theorem dX9_wall_20 : decode cX9_wall 20 = .ok (.ldc 83, 2) := by decide +kernel
theorem dX9_wall_22 : decode cX9_wall 22 = .ok (.ireturn, 1) := by decide +kernel
theorem dX9_wall_23 : decode cX9_wall 23 = .ok (.iconst 0, 1) := by decide +kernel
theorem dX9_wall_24 : decode cX9_wall 24 = .ok (.istore_n 3, 1) := by decide +kernel
theorem dX9_wall_25 : decode cX9_wall 25 = .ok (.iconst 0, 1) := by decide +kernel
theorem dX9_wall_26 : decode cX9_wall 26 = .ok (.istore 4, 2) := by decide +kernel
theorem dX9_wall_28 : decode cX9_wall 28 = .ok (.iconst 0, 1) := by decide +kernel
theorem dX9_wall_29 : decode cX9_wall 29 = .ok (.istore 5, 2) := by decide +kernel
theorem dX9_wall_31 : decode cX9_wall 31 = .ok (.iload 5, 2) := by decide +kernel
theorem dX9_wall_33 : decode cX9_wall 33 = .ok (.aload_n 0, 1) := by decide +kernel
theorem dX9_wall_34 : decode cX9_wall 34 = .ok (.getfield 10, 3) := by decide +kernel
theorem dX9_wall_37 : decode cX9_wall 37 = .ok (.getfield 84, 3) := by decide +kernel
theorem dX9_wall_40 : decode cX9_wall 40 = .ok (.if_icmp .ge 88, 3) := by decide +kernel
theorem dX9_wall_43 : decode cX9_wall 43 = .ok (.aload_n 0, 1) := by decide +kernel
theorem dX9_wall_44 : decode cX9_wall 44 = .ok (.getfield 10, 3) := by decide +kernel
theorem dX9_wall_47 : decode cX9_wall 47 = .ok (.getfield 99, 3) := by decide +kernel
theorem dX9_wall_50 : decode cX9_wall 50 = .ok (.iload 5, 2) := by decide +kernel
theorem dX9_wall_52 : decode cX9_wall 52 = .ok (.iaload, 1) := by decide +kernel
theorem dX9_wall_53 : decode cX9_wall 53 = .ok (.iload 4, 2) := by decide +kernel
theorem dX9_wall_55 : decode cX9_wall 55 = .ok (.if_icmp .le 15, 3) := by decide +kernel
theorem dX9_wall_58 : decode cX9_wall 58 = .ok (.iinc 3 1, 3) := by decide +kernel
theorem dX9_wall_61 : decode cX9_wall 61 = .ok (.aload_n 0, 1) := by decide +kernel
theorem dX9_wall_62 : decode cX9_wall 62 = .ok (.getfield 10, 3) := by decide +kernel
theorem dX9_wall_65 : decode cX9_wall 65 = .ok (.getfield 135, 3) := by decide +kernel
theorem dX9_wall_68 : decode cX9_wall 68 = .ok (.istore 4, 2) := by decide +kernel
theorem dX9_wall_70 : decode cX9_wall 70 = .ok (.iload_n 3, 1) := by decide +kernel
theorem dX9_wall_71 : decode cX9_wall 71 = .ok (.iload_n 1, 1) := by decide +kernel
theorem dX9_wall_72 : decode cX9_wall 72 = .ok (.if_icmp .gt 32, 3) := by decide +kernel
theorem dX9_wall_75 : decode cX9_wall 75 = .ok (.aload_n 0, 1) := by decide +kernel
theorem dX9_wall_76 : decode cX9_wall 76 = .ok (.getfield 10, 3) := by decide +kernel
theorem dX9_wall_79 : decode cX9_wall 79 = .ok (.getfield 96, 3) := by decide +kernel
theorem dX9_wall_82 : decode cX9_wall 82 = .ok (.iload 5, 2) := by decide +kernel
theorem dX9_wall_84 : decode cX9_wall 84 = .ok (.iaload, 1) := by decide +kernel
theorem dX9_wall_85 : decode cX9_wall 85 = .ok (.iload_n 2, 1) := by decide +kernel
theorem dX9_wall_86 : decode cX9_wall 86 = .ok (.if_icmp .gt 18, 3) := by decide +kernel
theorem dX9_wall_89 : decode cX9_wall 89 = .ok (.aload_n 0, 1) := by decide +kernel
theorem dX9_wall_90 : decode cX9_wall 90 = .ok (.getfield 10, 3) := by decide +kernel
theorem dX9_wall_93 : decode cX9_wall 93 = .ok (.getfield 99, 3) := by decide +kernel
theorem dX9_wall_96 : decode cX9_wall 96 = .ok (.iload 5, 2) := by decide +kernel
theorem dX9_wall_98 : decode cX9_wall 98 = .ok (.iaload, 1) := by decide +kernel
theorem dX9_wall_99 : decode cX9_wall 99 = .ok (.iload 4, 2) := by decide +kernel
theorem dX9_wall_101 : decode cX9_wall 101 = .ok (.if_icmp .le 6, 3) := by decide +kernel
theorem dX9_wall_104 : decode cX9_wall 104 = .ok (.iload 5, 2) := by decide +kernel
theorem dX9_wall_106 : decode cX9_wall 106 = .ok (.ireturn, 1) := by decide +kernel
theorem dX9_wall_107 : decode cX9_wall 107 = .ok (.iload 4, 2) := by decide +kernel
theorem dX9_wall_109 : decode cX9_wall 109 = .ok (.aload_n 0, 1) := by decide +kernel
theorem dX9_wall_110 : decode cX9_wall 110 = .ok (.getfield 10, 3) := by decide +kernel
theorem dX9_wall_113 : decode cX9_wall 113 = .ok (.getfield 99, 3) := by decide +kernel
theorem dX9_wall_116 : decode cX9_wall 116 = .ok (.iload 5, 2) := by decide +kernel
theorem dX9_wall_118 : decode cX9_wall 118 = .ok (.iaload, 1) := by decide +kernel
theorem dX9_wall_119 : decode cX9_wall 119 = .ok (.isub, 1) := by decide +kernel
theorem dX9_wall_120 : decode cX9_wall 120 = .ok (.istore 4, 2) := by decide +kernel
theorem dX9_wall_122 : decode cX9_wall 122 = .ok (.iinc 5 1, 3) := by decide +kernel
theorem dX9_wall_125 : decode cX9_wall 125 = .ok (.goto (-94), 3) := by decide +kernel
theorem dX9_wall_128 : decode cX9_wall 128 = .ok (.aload_n 0, 1) := by decide +kernel
theorem dX9_wall_129 : decode cX9_wall 129 = .ok (.getfield 10, 3) := by decide +kernel
theorem dX9_wall_132 : decode cX9_wall 132 = .ok (.getfield 84, 3) := by decide +kernel
theorem dX9_wall_135 : decode cX9_wall 135 = .ok (.ireturn, 1) := by decide +kernel
theorem dX9_inch_0 : decode cX9_inch 0 = .ok (.iload_n 1, 1) := by decide +kernel
theorem dX9_inch_1 : decode cX9_inch 1 = .ok (.iconst 1, 1) := by decide +kernel
theorem dX9_inch_2 : decode cX9_inch 2 = .ok (.aload_n 0, 1) := by decide +kernel
theorem dX9_inch_3 : decode cX9_inch 3 = .ok (.getfield 10, 3) := by decide +kernel
theorem dX9_inch_6 : decode cX9_inch 6 = .ok (.getfield 135, 3) := by decide +kernel
theorem dX9_inch_9 : decode cX9_inch 9 = .ok (.isub, 1) := by decide +kernel
theorem dX9_inch_10 : decode cX9_inch 10 = .ok (.sipush 999, 3) := by decide +kernel
theorem dX9_inch_13 : decode cX9_inch 13 = .ok (.aload_n 0, 1) := by decide +kernel
theorem dX9_inch_14 : decode cX9_inch 14 = .ok (.getfield 10, 3) := by decide +kernel
theorem dX9_inch_17 : decode cX9_inch 17 = .ok (.getfield 135, 3) := by decide +kernel
theorem dX9_inch_20 : decode cX9_inch 20 = .ok (.isub, 1) := by decide +kernel
theorem dX9_inch_21 : decode cX9_inch 21 = .ok (.invokestatic 79, 3) := by decide +kernel
theorem dX9_inch_24 : decode cX9_inch 24 = .ok (.ifCond .ne 6, 3) := by decide +kernel
theorem dX9_inch_27 : decode cX9_inch 27 = .ok (.ldc 83, 2) := by decide +kernel
theorem dX9_inch_29 : decode cX9_inch 29 = .ok (.ireturn, 1) := by decide +kernel
theorem dX9_inch_30 : decode cX9_inch 30 = .ok (.aload_n 0, 1) := by decide +kernel
theorem dX9_inch_31 : decode cX9_inch 31 = .ok (.getfield 22, 3) := by decide +kernel
theorem dX9_inch_34 : decode cX9_inch 34 = .ok (.aload_n 0, 1) := by decide +kernel
theorem dX9_inch_35 : decode cX9_inch 35 = .ok (.getfield 10, 3) := by decide +kernel
theorem dX9_inch_38 : decode cX9_inch 38 = .ok (.invokevirtual 109, 3) := by decide +kernel
theorem dX9_inch_41 : decode cX9_inch 41 = .ok (.pop, 1) := by decide +kernel
theorem dX9_inch_42 : decode cX9_inch 42 = .ok (.aload_n 0, 1) := by decide +kernel
theorem dX9_inch_43 : decode cX9_inch 43 = .ok (.getfield 22, 3) := by decide +kernel
theorem dX9_inch_46 : decode cX9_inch 46 = .ok (.invokevirtual 253, 3) := by decide +kernel
theorem dX9_inch_49 : decode cX9_inch 49 = .ok (.istore_n 2, 1) := by decide +kernel
theorem dX9_inch_50 : decode cX9_inch 50 = .ok (.aload_n 0, 1) := by decide +kernel
theorem dX9_inch_51 : decode cX9_inch 51 = .ok (.getfield 22, 3) := by decide +kernel
theorem dX9_inch_54 : decode cX9_inch 54 = .ok (.dup, 1) := by decide +kernel
theorem dX9_inch_55 : decode cX9_inch 55 = .ok (.getfield 335, 3) := by decide +kernel
theorem dX9_inch_58 : decode cX9_inch 58 = .ok (.iload_n 1, 1) := by decide +kernel
theorem dX9_inch_59 : decode cX9_inch 59 = .ok (.iadd, 1) := by decide +kernel
theorem dX9_inch_60 : decode cX9_inch 60 = .ok (.putfield 335, 3) := by decide +kernel
theorem dX9_inch_63 : decode cX9_inch 63 = .ok (.aload_n 0, 1) := by decide +kernel
theorem dX9_inch_64 : decode cX9_inch 64 = .ok (.getfield 22, 3) := by decide +kernel
theorem dX9_inch_67 : decode cX9_inch 67 = .ok (.invokevirtual 253, 3) := by decide +kernel
theorem dX9_inch_70 : decode cX9_inch 70 = .ok (.istore_n 3, 1) := by decide +kernel
theorem dX9_inch_71 : decode cX9_inch 71 = .ok (.iload_n 2, 1) := by decide +kernel
theorem dX9_inch_72 : decode cX9_inch 72 = .ok (.ifCond .lt 7, 3) := by decide +kernel
theorem dX9_inch_75 : decode cX9_inch 75 = .ok (.iload_n 3, 1) := by decide +kernel
theorem dX9_inch_76 : decode cX9_inch 76 = .ok (.ifCond .ge 8, 3) := by decide +kernel
theorem dX9_inch_79 : decode cX9_inch 79 = .ok (.ldc 121, 2) := by decide +kernel
theorem dX9_inch_81 : decode cX9_inch 81 = .ok (.goto 6, 3) := by decide +kernel
theorem dX9_inch_84 : decode cX9_inch 84 = .ok (.iload_n 3, 1) := by decide +kernel
theorem dX9_inch_85 : decode cX9_inch 85 = .ok (.iload_n 2, 1) := by decide +kernel
theorem dX9_inch_86 : decode cX9_inch 86 = .ok (.isub, 1) := by decide +kernel
theorem dX9_inch_87 : decode cX9_inch 87 = .ok (.ireturn, 1) := by decide +kernel
theorem dX9_shift_0 : decode cX9_shift 0 = .ok (.iload_n 1, 1) := by decide +kernel
theorem dX9_shift_1 : decode cX9_shift 1 = .ok (.iconst 0, 1) := by decide +kernel
theorem dX9_shift_2 : decode cX9_shift 2 = .ok (.aload_n 0, 1) := by decide +kernel
theorem dX9_shift_3 : decode cX9_shift 3 = .ok (.getfield 10, 3) := by decide +kernel
theorem dX9_shift_6 : decode cX9_shift 6 = .ok (.getfield 84, 3) := by decide +kernel
theorem dX9_shift_9 : decode cX9_shift 9 = .ok (.invokestatic 79, 3) := by decide +kernel
theorem dX9_shift_12 : decode cX9_shift 12 = .ok (.ifCond .eq 10, 3) := by decide +kernel
theorem dX9_shift_15 : decode cX9_shift 15 = .ok (.iload_n 2, 1) := by decide +kernel
theorem dX9_shift_16 : decode cX9_shift 16 = .ok (.invokestatic 75, 3) := by decide +kernel
theorem dX9_shift_19 : decode cX9_shift 19 = .ok (.ifCond .ne 6, 3) := by decide +kernel
theorem dX9_shift_22 : decode cX9_shift 22 = .ok (.ldc 83, 2) := by decide +kernel
theorem dX9_shift_24 : decode cX9_shift 24 = .ok (.ireturn, 1) := by decide +kernel
theorem dX9_shift_25 : decode cX9_shift 25 = .ok (.aload_n 0, 1) := by decide +kernel
theorem dX9_shift_26 : decode cX9_shift 26 = .ok (.getfield 10, 3) := by decide +kernel
theorem dX9_shift_29 : decode cX9_shift 29 = .ok (.getfield 84, 3) := by decide +kernel
theorem dX9_shift_32 : decode cX9_shift 32 = .ok (.bipush 24, 2) := by decide +kernel
theorem dX9_shift_34 : decode cX9_shift 34 = .ok (.if_icmp .lt 6, 3) := by decide +kernel
theorem dX9_shift_37 : decode cX9_shift 37 = .ok (.ldc 88, 2) := by decide +kernel
theorem dX9_shift_39 : decode cX9_shift 39 = .ok (.ireturn, 1) := by decide +kernel
theorem dX9_shift_40 : decode cX9_shift 40 = .ok (.aload_n 0, 1) := by decide +kernel
theorem dX9_shift_41 : decode cX9_shift 41 = .ok (.getfield 22, 3) := by decide +kernel
theorem dX9_shift_44 : decode cX9_shift 44 = .ok (.aload_n 0, 1) := by decide +kernel
theorem dX9_shift_45 : decode cX9_shift 45 = .ok (.getfield 10, 3) := by decide +kernel
theorem dX9_shift_48 : decode cX9_shift 48 = .ok (.invokevirtual 109, 3) := by decide +kernel
theorem dX9_shift_51 : decode cX9_shift 51 = .ok (.invokevirtual 113, 3) := by decide +kernel
theorem dX9_shift_54 : decode cX9_shift 54 = .ok (.ifCond .ne 6, 3) := by decide +kernel
theorem dX9_shift_57 : decode cX9_shift 57 = .ok (.ldc 121, 2) := by decide +kernel
theorem dX9_shift_59 : decode cX9_shift 59 = .ok (.ireturn, 1) := by decide +kernel
theorem dX9_shift_60 : decode cX9_shift 60 = .ok (.iconst 0, 1) := by decide +kernel
theorem dX9_shift_61 : decode cX9_shift 61 = .ok (.istore_n 3, 1) := by decide +kernel
theorem dX9_shift_62 : decode cX9_shift 62 = .ok (.iload_n 3, 1) := by decide +kernel
theorem dX9_shift_63 : decode cX9_shift 63 = .ok (.aload_n 0, 1) := by decide +kernel
theorem dX9_shift_64 : decode cX9_shift 64 = .ok (.getfield 10, 3) := by decide +kernel
theorem dX9_shift_67 : decode cX9_shift 67 = .ok (.getfield 84, 3) := by decide +kernel
theorem dX9_shift_70 : decode cX9_shift 70 = .ok (.if_icmp .ge 23, 3) := by decide +kernel
theorem dX9_shift_73 : decode cX9_shift 73 = .ok (.aload_n 0, 1) := by decide +kernel
theorem dX9_shift_74 : decode cX9_shift 74 = .ok (.getfield 70, 3) := by decide +kernel
theorem dX9_shift_77 : decode cX9_shift 77 = .ok (.iload_n 3, 1) := by decide +kernel
theorem dX9_shift_78 : decode cX9_shift 78 = .ok (.aload_n 0, 1) := by decide +kernel
theorem dX9_shift_79 : decode cX9_shift 79 = .ok (.getfield 22, 3) := by decide +kernel
theorem dX9_shift_82 : decode cX9_shift 82 = .ok (.iload_n 3, 1) := by decide +kernel
theorem dX9_shift_83 : decode cX9_shift 83 = .ok (.invokevirtual 117, 3) := by decide +kernel
theorem dX9_shift_86 : decode cX9_shift 86 = .ok (.iastore, 1) := by decide +kernel
theorem dX9_shift_87 : decode cX9_shift 87 = .ok (.iinc 3 1, 3) := by decide +kernel
theorem dX9_shift_90 : decode cX9_shift 90 = .ok (.goto (-28), 3) := by decide +kernel
theorem dX9_shift_93 : decode cX9_shift 93 = .ok (.aload_n 0, 1) := by decide +kernel
theorem dX9_shift_94 : decode cX9_shift 94 = .ok (.getfield 22, 3) := by decide +kernel
theorem dX9_shift_97 : decode cX9_shift 97 = .ok (.iload_n 1, 1) := by decide +kernel
theorem dX9_shift_98 : decode cX9_shift 98 = .ok (.iload_n 2, 1) := by decide +kernel
theorem dX9_shift_99 : decode cX9_shift 99 = .ok (.bipush 100, 2) := by decide +kernel
theorem dX9_shift_101 : decode cX9_shift 101 = .ok (.idiv, 1) := by decide +kernel
theorem dX9_shift_102 : decode cX9_shift 102 = .ok (.iload_n 2, 1) := by decide +kernel
theorem dX9_shift_103 : decode cX9_shift 103 = .ok (.bipush 100, 2) := by decide +kernel
theorem dX9_shift_105 : decode cX9_shift 105 = .ok (.irem, 1) := by decide +kernel
theorem dX9_shift_106 : decode cX9_shift 106 = .ok (.invokevirtual 336, 3) := by decide +kernel
theorem dX9_shift_109 : decode cX9_shift 109 = .ok (.aload_n 0, 1) := by decide +kernel
theorem dX9_shift_110 : decode cX9_shift 110 = .ok (.getfield 22, 3) := by decide +kernel
theorem dX9_shift_113 : decode cX9_shift 113 = .ok (.invokevirtual 113, 3) := by decide +kernel
theorem dX9_shift_116 : decode cX9_shift 116 = .ok (.ifCond .eq 11, 3) := by decide +kernel
theorem dX9_shift_119 : decode cX9_shift 119 = .ok (.aload_n 0, 1) := by decide +kernel
theorem dX9_shift_120 : decode cX9_shift 120 = .ok (.iload_n 1, 1) := by decide +kernel
theorem dX9_shift_121 : decode cX9_shift 121 = .ok (.invokevirtual 340, 3) := by decide +kernel
theorem dX9_shift_124 : decode cX9_shift 124 = .ok (.goto 5, 3) := by decide +kernel
theorem dX9_shift_127 : decode cX9_shift 127 = .ok (.ldc 121, 2) := by decide +kernel
theorem dX9_shift_129 : decode cX9_shift 129 = .ok (.ireturn, 1) := by decide +kernel
theorem dX9_moved_0 : decode cX9_moved 0 = .ok (.iconst 0, 1) := by decide +kernel
theorem dX9_moved_1 : decode cX9_moved 1 = .ok (.istore_n 2, 1) := by decide +kernel
theorem dX9_moved_2 : decode cX9_moved 2 = .ok (.iconst 0, 1) := by decide +kernel
theorem dX9_moved_3 : decode cX9_moved 3 = .ok (.istore_n 3, 1) := by decide +kernel
theorem dX9_moved_4 : decode cX9_moved 4 = .ok (.iload_n 3, 1) := by decide +kernel
theorem dX9_moved_5 : decode cX9_moved 5 = .ok (.aload_n 0, 1) := by decide +kernel
theorem dX9_moved_6 : decode cX9_moved 6 = .ok (.getfield 10, 3) := by decide +kernel
theorem dX9_moved_9 : decode cX9_moved 9 = .ok (.getfield 84, 3) := by decide +kernel
theorem dX9_moved_12 : decode cX9_moved 12 = .ok (.if_icmp .ge 44, 3) := by decide +kernel
theorem dX9_moved_15 : decode cX9_moved 15 = .ok (.iload_n 3, 1) := by decide +kernel
theorem dX9_moved_16 : decode cX9_moved 16 = .ok (.iload_n 1, 1) := by decide +kernel
theorem dX9_moved_17 : decode cX9_moved 17 = .ok (.if_icmp .ge 7, 3) := by decide +kernel
theorem dX9_moved_20 : decode cX9_moved 20 = .ok (.iload_n 3, 1) := by decide +kernel
theorem dX9_moved_21 : decode cX9_moved 21 = .ok (.goto 6, 3) := by decide +kernel
theorem dX9_moved_24 : decode cX9_moved 24 = .ok (.iload_n 3, 1) := by decide +kernel
theorem dX9_moved_25 : decode cX9_moved 25 = .ok (.iconst 1, 1) := by decide +kernel
theorem dX9_moved_26 : decode cX9_moved 26 = .ok (.iadd, 1) := by decide +kernel
theorem dX9_moved_27 : decode cX9_moved 27 = .ok (.istore 4, 2) := by decide +kernel
theorem dX9_moved_29 : decode cX9_moved 29 = .ok (.aload_n 0, 1) := by decide +kernel
theorem dX9_moved_30 : decode cX9_moved 30 = .ok (.getfield 22, 3) := by decide +kernel
theorem dX9_moved_33 : decode cX9_moved 33 = .ok (.iload 4, 2) := by decide +kernel
theorem dX9_moved_35 : decode cX9_moved 35 = .ok (.invokevirtual 117, 3) := by decide +kernel
theorem dX9_moved_38 : decode cX9_moved 38 = .ok (.aload_n 0, 1) := by decide +kernel
theorem dX9_moved_39 : decode cX9_moved 39 = .ok (.getfield 70, 3) := by decide +kernel
theorem dX9_moved_42 : decode cX9_moved 42 = .ok (.iload_n 3, 1) := by decide +kernel
theorem dX9_moved_43 : decode cX9_moved 43 = .ok (.iaload, 1) := by decide +kernel
theorem dX9_moved_44 : decode cX9_moved 44 = .ok (.if_icmp .eq 6, 3) := by decide +kernel
theorem dX9_moved_47 : decode cX9_moved 47 = .ok (.iinc 2 1, 3) := by decide +kernel
theorem dX9_moved_50 : decode cX9_moved 50 = .ok (.iinc 3 1, 3) := by decide +kernel
theorem dX9_moved_53 : decode cX9_moved 53 = .ok (.goto (-49), 3) := by decide +kernel
theorem dX9_moved_56 : decode cX9_moved 56 = .ok (.iload_n 2, 1) := by decide +kernel
theorem dX9_moved_57 : decode cX9_moved 57 = .ok (.ireturn, 1) := by decide +kernel
theorem dX9_sheet_0 : decode cX9_sheet 0 = .ok (.iload_n 1, 1) := by decide +kernel
theorem dX9_sheet_1 : decode cX9_sheet 1 = .ok (.invokestatic 343, 3) := by decide +kernel
theorem dX9_sheet_4 : decode cX9_sheet 4 = .ok (.ifCond .eq 12, 3) := by decide +kernel
theorem dX9_sheet_7 : decode cX9_sheet 7 = .ok (.iload_n 2, 1) := by decide +kernel
theorem dX9_sheet_8 : decode cX9_sheet 8 = .ok (.iconst (-1), 1) := by decide +kernel
theorem dX9_sheet_9 : decode cX9_sheet 9 = .ok (.iconst 1, 1) := by decide +kernel
theorem dX9_sheet_10 : decode cX9_sheet 10 = .ok (.invokestatic 79, 3) := by decide +kernel
theorem dX9_sheet_13 : decode cX9_sheet 13 = .ok (.ifCond .ne 6, 3) := by decide +kernel
theorem dX9_sheet_16 : decode cX9_sheet 16 = .ok (.ldc 83, 2) := by decide +kernel
theorem dX9_sheet_18 : decode cX9_sheet 18 = .ok (.ireturn, 1) := by decide +kernel
theorem dX9_sheet_19 : decode cX9_sheet 19 = .ok (.iload_n 2, 1) := by decide +kernel
theorem dX9_sheet_20 : decode cX9_sheet 20 = .ok (.iconst (-1), 1) := by decide +kernel
theorem dX9_sheet_21 : decode cX9_sheet 21 = .ok (.if_icmp .ne 7, 3) := by decide +kernel
theorem dX9_sheet_24 : decode cX9_sheet 24 = .ok (.iconst 0, 1) := by decide +kernel
theorem dX9_sheet_25 : decode cX9_sheet 25 = .ok (.goto 4, 3) := by decide +kernel
theorem dX9_sheet_28 : decode cX9_sheet 28 = .ok (.iload_n 3, 1) := by decide +kernel
theorem dX9_sheet_29 : decode cX9_sheet 29 = .ok (.istore 4, 2) := by decide +kernel
theorem dX9_sheet_31 : decode cX9_sheet 31 = .ok (.iload 4, 2) := by decide +kernel
theorem dX9_sheet_33 : decode cX9_sheet 33 = .ok (.bipush 24, 2) := by decide +kernel
theorem dX9_sheet_35 : decode cX9_sheet 35 = .ok (.if_icmp .le 6, 3) := by decide +kernel
theorem dX9_sheet_38 : decode cX9_sheet 38 = .ok (.ldc 83, 2) := by decide +kernel
theorem dX9_sheet_40 : decode cX9_sheet 40 = .ok (.ireturn, 1) := by decide +kernel
theorem dX9_sheet_41 : decode cX9_sheet 41 = .ok (.iload 4, 2) := by decide +kernel
theorem dX9_sheet_43 : decode cX9_sheet 43 = .ok (.ifCond .ge 7, 3) := by decide +kernel
theorem dX9_sheet_46 : decode cX9_sheet 46 = .ok (.ldc_w 346, 3) := by decide +kernel
theorem dX9_sheet_49 : decode cX9_sheet 49 = .ok (.ireturn, 1) := by decide +kernel
theorem dX9_sheet_50 : decode cX9_sheet 50 = .ok (.aload_n 0, 1) := by decide +kernel
theorem dX9_sheet_51 : decode cX9_sheet 51 = .ok (.getfield 47, 3) := by decide +kernel
theorem dX9_sheet_54 : decode cX9_sheet 54 = .ok (.iload_n 1, 1) := by decide +kernel
theorem dX9_sheet_55 : decode cX9_sheet 55 = .ok (.aaload, 1) := by decide +kernel
theorem dX9_sheet_56 : decode cX9_sheet 56 = .ok (.iload_n 2, 1) := by decide +kernel
theorem dX9_sheet_57 : decode cX9_sheet 57 = .ok (.iload 4, 2) := by decide +kernel
theorem dX9_sheet_59 : decode cX9_sheet 59 = .ok (.invokevirtual 347, 3) := by decide +kernel
theorem dX9_sheet_62 : decode cX9_sheet 62 = .ok (.iload 4, 2) := by decide +kernel
theorem dX9_sheet_64 : decode cX9_sheet 64 = .ok (.ireturn, 1) := by decide +kernel
theorem dX9_mark_0 : decode cX9_mark 0 = .ok (.iload_n 1, 1) := by decide +kernel
theorem dX9_mark_1 : decode cX9_mark 1 = .ok (.invokestatic 343, 3) := by decide +kernel
theorem dX9_mark_4 : decode cX9_mark 4 = .ok (.ifCond .ne 6, 3) := by decide +kernel
theorem dX9_mark_7 : decode cX9_mark 7 = .ok (.ldc 83, 2) := by decide +kernel
theorem dX9_mark_9 : decode cX9_mark 9 = .ok (.ireturn, 1) := by decide +kernel
theorem dX9_mark_10 : decode cX9_mark 10 = .ok (.aload_n 0, 1) := by decide +kernel
theorem dX9_mark_11 : decode cX9_mark 11 = .ok (.getfield 47, 3) := by decide +kernel
theorem dX9_mark_14 : decode cX9_mark 14 = .ok (.iload_n 1, 1) := by decide +kernel
theorem dX9_mark_15 : decode cX9_mark 15 = .ok (.aaload, 1) := by decide +kernel
theorem dX9_mark_16 : decode cX9_mark 16 = .ok (.astore 4, 2) := by decide +kernel
theorem dX9_mark_18 : decode cX9_mark 18 = .ok (.aload 4, 2) := by decide +kernel
theorem dX9_mark_20 : decode cX9_mark 20 = .ok (.getfield 350, 3) := by decide +kernel
theorem dX9_mark_23 : decode cX9_mark 23 = .ok (.iconst (-1), 1) := by decide +kernel
theorem dX9_mark_24 : decode cX9_mark 24 = .ok (.if_icmp .ne 7, 3) := by decide +kernel
theorem dX9_mark_27 : decode cX9_mark 27 = .ok (.ldc_w 353, 3) := by decide +kernel
theorem dX9_mark_30 : decode cX9_mark 30 = .ok (.ireturn, 1) := by decide +kernel
theorem dX9_mark_31 : decode cX9_mark 31 = .ok (.aload 4, 2) := by decide +kernel
theorem dX9_mark_33 : decode cX9_mark 33 = .ok (.iload_n 2, 1) := by decide +kernel
theorem dX9_mark_34 : decode cX9_mark 34 = .ok (.iconst 1, 1) := by decide +kernel
theorem dX9_mark_35 : decode cX9_mark 35 = .ok (.invokevirtual 354, 3) := by decide +kernel
theorem dX9_mark_38 : decode cX9_mark 38 = .ok (.ifCond .ne 7, 3) := by decide +kernel
theorem dX9_mark_41 : decode cX9_mark 41 = .ok (.ldc_w 357, 3) := by decide +kernel
theorem dX9_mark_44 : decode cX9_mark 44 = .ok (.ireturn, 1) := by decide +kernel
theorem dX9_mark_45 : decode cX9_mark 45 = .ok (.aload 4, 2) := by decide +kernel
theorem dX9_mark_47 : decode cX9_mark 47 = .ok (.getfield 350, 3) := by decide +kernel
theorem dX9_mark_50 : decode cX9_mark 50 = .ok (.ifCond .ne 12, 3) := by decide +kernel
theorem dX9_mark_53 : decode cX9_mark 53 = .ok (.iload_n 3, 1) := by decide +kernel
theorem dX9_mark_54 : decode cX9_mark 54 = .ok (.ldc 121, 2) := by decide +kernel
theorem dX9_mark_56 : decode cX9_mark 56 = .ok (.if_icmp .ne 6, 3) := by decide +kernel
theorem dX9_mark_59 : decode cX9_mark 59 = .ok (.ldc 193, 2) := by decide +kernel
theorem dX9_mark_61 : decode cX9_mark 61 = .ok (.ireturn, 1) := by decide +kernel
theorem dX9_mark_62 : decode cX9_mark 62 = .ok (.aload 4, 2) := by decide +kernel
theorem dX9_mark_64 : decode cX9_mark 64 = .ok (.getfield 350, 3) := by decide +kernel
theorem dX9_mark_67 : decode cX9_mark 67 = .ok (.iconst 1, 1) := by decide +kernel
theorem dX9_mark_68 : decode cX9_mark 68 = .ok (.if_icmp .ne 25, 3) := by decide +kernel
theorem dX9_mark_71 : decode cX9_mark 71 = .ok (.iload_n 3, 1) := by decide +kernel
theorem dX9_mark_72 : decode cX9_mark 72 = .ok (.ldc 121, 2) := by decide +kernel
theorem dX9_mark_74 : decode cX9_mark 74 = .ok (.if_icmp .eq 19, 3) := by decide +kernel
theorem dX9_mark_77 : decode cX9_mark 77 = .ok (.iload_n 3, 1) := by decide +kernel
theorem dX9_mark_78 : decode cX9_mark 78 = .ok (.ldc_w 358, 3) := by decide +kernel
theorem dX9_mark_81 : decode cX9_mark 81 = .ok (.ldc_w 359, 3) := by decide +kernel
theorem dX9_mark_84 : decode cX9_mark 84 = .ok (.invokestatic 79, 3) := by decide +kernel
theorem dX9_mark_87 : decode cX9_mark 87 = .ok (.ifCond .ne 6, 3) := by decide +kernel
theorem dX9_mark_90 : decode cX9_mark 90 = .ok (.ldc 83, 2) := by decide +kernel
theorem dX9_mark_92 : decode cX9_mark 92 = .ok (.ireturn, 1) := by decide +kernel
theorem dX9_mark_93 : decode cX9_mark 93 = .ok (.aload 4, 2) := by decide +kernel
theorem dX9_mark_95 : decode cX9_mark 95 = .ok (.getfield 360, 3) := by decide +kernel
theorem dX9_mark_98 : decode cX9_mark 98 = .ok (.iload_n 2, 1) := by decide +kernel
theorem dX9_mark_99 : decode cX9_mark 99 = .ok (.aload 4, 2) := by decide +kernel
theorem dX9_mark_101 : decode cX9_mark 101 = .ok (.getfield 350, 3) := by decide +kernel
theorem dX9_mark_104 : decode cX9_mark 104 = .ok (.ifCond .ne 8, 3) := by decide +kernel
theorem dX9_mark_107 : decode cX9_mark 107 = .ok (.iload_n 3, 1) := by decide +kernel
theorem dX9_mark_108 : decode cX9_mark 108 = .ok (.i2s, 1) := by decide +kernel
theorem dX9_mark_109 : decode cX9_mark 109 = .ok (.goto 4, 3) := by decide +kernel
theorem dX9_mark_112 : decode cX9_mark 112 = .ok (.iload_n 3, 1) := by decide +kernel
theorem dX9_mark_113 : decode cX9_mark 113 = .ok (.iastore, 1) := by decide +kernel
theorem dX9_mark_114 : decode cX9_mark 114 = .ok (.iconst 1, 1) := by decide +kernel
theorem dX9_mark_115 : decode cX9_mark 115 = .ok (.ireturn, 1) := by decide +kernel
theorem dX9_pour_0 : decode cX9_pour 0 = .ok (.iload_n 1, 1) := by decide +kernel
theorem dX9_pour_1 : decode cX9_pour 1 = .ok (.invokestatic 343, 3) := by decide +kernel
theorem dX9_pour_4 : decode cX9_pour 4 = .ok (.ifCond .eq 13, 3) := by decide +kernel
theorem dX9_pour_7 : decode cX9_pour 7 = .ok (.iload_n 2, 1) := by decide +kernel
theorem dX9_pour_8 : decode cX9_pour 8 = .ok (.iconst 0, 1) := by decide +kernel
theorem dX9_pour_9 : decode cX9_pour 9 = .ok (.bipush 7, 2) := by decide +kernel
theorem dX9_pour_11 : decode cX9_pour 11 = .ok (.invokestatic 79, 3) := by decide +kernel
theorem dX9_pour_14 : decode cX9_pour 14 = .ok (.ifCond .ne 6, 3) := by decide +kernel
theorem dX9_pour_17 : decode cX9_pour 17 = .ok (.ldc 83, 2) := by decide +kernel
theorem dX9_pour_19 : decode cX9_pour 19 = .ok (.ireturn, 1) := by decide +kernel
theorem dX9_pour_20 : decode cX9_pour 20 = .ok (.aload_n 0, 1) := by decide +kernel
theorem dX9_pour_21 : decode cX9_pour 21 = .ok (.getfield 47, 3) := by decide +kernel
theorem dX9_pour_24 : decode cX9_pour 24 = .ok (.iload_n 1, 1) := by decide +kernel
theorem dX9_pour_25 : decode cX9_pour 25 = .ok (.aaload, 1) := by decide +kernel
theorem dX9_pour_26 : decode cX9_pour 26 = .ok (.astore_n 3, 1) := by decide +kernel
theorem dX9_pour_27 : decode cX9_pour 27 = .ok (.aload_n 3, 1) := by decide +kernel
theorem dX9_pour_28 : decode cX9_pour 28 = .ok (.getfield 350, 3) := by decide +kernel
theorem dX9_pour_31 : decode cX9_pour 31 = .ok (.iconst (-1), 1) := by decide +kernel
theorem dX9_pour_32 : decode cX9_pour 32 = .ok (.if_icmp .ne 7, 3) := by decide +kernel
theorem dX9_pour_35 : decode cX9_pour 35 = .ok (.ldc_w 353, 3) := by decide +kernel
theorem dX9_pour_38 : decode cX9_pour 38 = .ok (.ireturn, 1) := by decide +kernel
theorem dX9_pour_39 : decode cX9_pour 39 = .ok (.aload_n 3, 1) := by decide +kernel
theorem dX9_pour_40 : decode cX9_pour 40 = .ok (.invokevirtual 363, 3) := by decide +kernel
theorem dX9_pour_43 : decode cX9_pour 43 = .ok (.istore 4, 2) := by decide +kernel
theorem dX9_pour_45 : decode cX9_pour 45 = .ok (.iload 4, 2) := by decide +kernel
theorem dX9_pour_47 : decode cX9_pour 47 = .ok (.bipush 24, 2) := by decide +kernel
theorem dX9_pour_49 : decode cX9_pour 49 = .ok (.aload_n 0, 1) := by decide +kernel
theorem dX9_pour_50 : decode cX9_pour 50 = .ok (.getfield 10, 3) := by decide +kernel
theorem dX9_pour_53 : decode cX9_pour 53 = .ok (.getfield 84, 3) := by decide +kernel
theorem dX9_pour_56 : decode cX9_pour 56 = .ok (.isub, 1) := by decide +kernel
theorem dX9_pour_57 : decode cX9_pour 57 = .ok (.if_icmp .le 6, 3) := by decide +kernel
theorem dX9_pour_60 : decode cX9_pour 60 = .ok (.ldc 88, 2) := by decide +kernel
theorem dX9_pour_62 : decode cX9_pour 62 = .ok (.ireturn, 1) := by decide +kernel
theorem dX9_pour_63 : decode cX9_pour 63 = .ok (.iconst 0, 1) := by decide +kernel
theorem dX9_pour_64 : decode cX9_pour 64 = .ok (.istore 5, 2) := by decide +kernel
theorem dX9_pour_66 : decode cX9_pour 66 = .ok (.iload 5, 2) := by decide +kernel
theorem dX9_pour_68 : decode cX9_pour 68 = .ok (.iload 4, 2) := by decide +kernel
theorem dX9_pour_70 : decode cX9_pour 70 = .ok (.if_icmp .ge 38, 3) := by decide +kernel
theorem dX9_pour_73 : decode cX9_pour 73 = .ok (.aload_n 0, 1) := by decide +kernel
theorem dX9_pour_74 : decode cX9_pour 74 = .ok (.getfield 10, 3) := by decide +kernel
theorem dX9_pour_77 : decode cX9_pour 77 = .ok (.aload_n 3, 1) := by decide +kernel
theorem dX9_pour_78 : decode cX9_pour 78 = .ok (.getfield 360, 3) := by decide +kernel
theorem dX9_pour_81 : decode cX9_pour 81 = .ok (.iload 5, 2) := by decide +kernel
theorem dX9_pour_83 : decode cX9_pour 83 = .ok (.iaload, 1) := by decide +kernel
theorem dX9_pour_84 : decode cX9_pour 84 = .ok (.bipush 100, 2) := by decide +kernel
theorem dX9_pour_86 : decode cX9_pour 86 = .ok (.idiv, 1) := by decide +kernel
theorem dX9_pour_87 : decode cX9_pour 87 = .ok (.aload_n 3, 1) := by decide +kernel
theorem dX9_pour_88 : decode cX9_pour 88 = .ok (.getfield 360, 3) := by decide +kernel
theorem dX9_pour_91 : decode cX9_pour 91 = .ok (.iload 5, 2) := by decide +kernel
theorem dX9_pour_93 : decode cX9_pour 93 = .ok (.iaload, 1) := by decide +kernel
theorem dX9_pour_94 : decode cX9_pour 94 = .ok (.bipush 100, 2) := by decide +kernel
theorem dX9_pour_96 : decode cX9_pour 96 = .ok (.irem, 1) := by decide +kernel
theorem dX9_pour_97 : decode cX9_pour 97 = .ok (.iload_n 2, 1) := by decide +kernel
theorem dX9_pour_98 : decode cX9_pour 98 = .ok (.invokevirtual 89, 3) := by decide +kernel
theorem dX9_pour_101 : decode cX9_pour 101 = .ok (.pop, 1) := by decide +kernel
theorem dX9_pour_102 : decode cX9_pour 102 = .ok (.iinc 5 1, 3) := by decide +kernel
theorem dX9_pour_105 : decode cX9_pour 105 = .ok (.goto (-39), 3) := by decide +kernel
theorem dX9_pour_108 : decode cX9_pour 108 = .ok (.iload 4, 2) := by decide +kernel
theorem dX9_pour_110 : decode cX9_pour 110 = .ok (.ireturn, 1) := by decide +kernel
theorem dX9_copy_0 : decode cX9_copy 0 = .ok (.iload_n 1, 1) := by decide +kernel
theorem dX9_copy_1 : decode cX9_copy 1 = .ok (.invokestatic 343, 3) := by decide +kernel
theorem dX9_copy_4 : decode cX9_copy 4 = .ok (.ifCond .eq 10, 3) := by decide +kernel
theorem dX9_copy_7 : decode cX9_copy 7 = .ok (.iload_n 3, 1) := by decide +kernel
theorem dX9_copy_8 : decode cX9_copy 8 = .ok (.invokestatic 343, 3) := by decide +kernel
theorem dX9_copy_11 : decode cX9_copy 11 = .ok (.ifCond .ne 6, 3) := by decide +kernel
theorem dX9_copy_14 : decode cX9_copy 14 = .ok (.ldc 83, 2) := by decide +kernel
theorem dX9_copy_16 : decode cX9_copy 16 = .ok (.ireturn, 1) := by decide +kernel
theorem dX9_copy_17 : decode cX9_copy 17 = .ok (.aload_n 0, 1) := by decide +kernel
theorem dX9_copy_18 : decode cX9_copy 18 = .ok (.getfield 47, 3) := by decide +kernel
theorem dX9_copy_21 : decode cX9_copy 21 = .ok (.iload_n 1, 1) := by decide +kernel
theorem dX9_copy_22 : decode cX9_copy 22 = .ok (.aaload, 1) := by decide +kernel
theorem dX9_copy_23 : decode cX9_copy 23 = .ok (.astore 6, 2) := by decide +kernel
theorem dX9_copy_25 : decode cX9_copy 25 = .ok (.aload_n 0, 1) := by decide +kernel
theorem dX9_copy_26 : decode cX9_copy 26 = .ok (.getfield 47, 3) := by decide +kernel
theorem dX9_copy_29 : decode cX9_copy 29 = .ok (.iload_n 3, 1) := by decide +kernel
theorem dX9_copy_30 : decode cX9_copy 30 = .ok (.aaload, 1) := by decide +kernel
theorem dX9_copy_31 : decode cX9_copy 31 = .ok (.astore 7, 2) := by decide +kernel
theorem dX9_copy_33 : decode cX9_copy 33 = .ok (.aload 6, 2) := by decide +kernel
theorem dX9_copy_35 : decode cX9_copy 35 = .ok (.getfield 350, 3) := by decide +kernel
theorem dX9_copy_38 : decode cX9_copy 38 = .ok (.iconst (-1), 1) := by decide +kernel
theorem dX9_copy_39 : decode cX9_copy 39 = .ok (.if_icmp .eq 12, 3) := by decide +kernel
theorem dX9_copy_42 : decode cX9_copy 42 = .ok (.aload 7, 2) := by decide +kernel
theorem dX9_copy_44 : decode cX9_copy 44 = .ok (.getfield 350, 3) := by decide +kernel
theorem dX9_copy_47 : decode cX9_copy 47 = .ok (.iconst (-1), 1) := by decide +kernel
theorem dX9_copy_48 : decode cX9_copy 48 = .ok (.if_icmp .ne 7, 3) := by decide +kernel
theorem dX9_copy_51 : decode cX9_copy 51 = .ok (.ldc_w 353, 3) := by decide +kernel
theorem dX9_copy_54 : decode cX9_copy 54 = .ok (.ireturn, 1) := by decide +kernel
theorem dX9_copy_55 : decode cX9_copy 55 = .ok (.aload 6, 2) := by decide +kernel
theorem dX9_copy_57 : decode cX9_copy 57 = .ok (.getfield 350, 3) := by decide +kernel
theorem dX9_copy_60 : decode cX9_copy 60 = .ok (.aload 7, 2) := by decide +kernel
theorem dX9_copy_62 : decode cX9_copy 62 = .ok (.getfield 350, 3) := by decide +kernel
theorem dX9_copy_65 : decode cX9_copy 65 = .ok (.if_icmp .eq 6, 3) := by decide +kernel
theorem dX9_copy_68 : decode cX9_copy 68 = .ok (.ldc 193, 2) := by decide +kernel
theorem dX9_copy_70 : decode cX9_copy 70 = .ok (.ireturn, 1) := by decide +kernel
theorem dX9_copy_71 : decode cX9_copy 71 = .ok (.aload 6, 2) := by decide +kernel
theorem dX9_copy_73 : decode cX9_copy 73 = .ok (.iload_n 2, 1) := by decide +kernel
theorem dX9_copy_74 : decode cX9_copy 74 = .ok (.iload 5, 2) := by decide +kernel
theorem dX9_copy_76 : decode cX9_copy 76 = .ok (.invokevirtual 354, 3) := by decide +kernel
theorem dX9_copy_79 : decode cX9_copy 79 = .ok (.ifCond .eq 15, 3) := by decide +kernel
theorem dX9_copy_82 : decode cX9_copy 82 = .ok (.aload 7, 2) := by decide +kernel
theorem dX9_copy_84 : decode cX9_copy 84 = .ok (.iload 4, 2) := by decide +kernel
theorem dX9_copy_86 : decode cX9_copy 86 = .ok (.iload 5, 2) := by decide +kernel
theorem dX9_copy_88 : decode cX9_copy 88 = .ok (.invokevirtual 354, 3) := by decide +kernel
theorem dX9_copy_91 : decode cX9_copy 91 = .ok (.ifCond .ne 7, 3) := by decide +kernel
theorem dX9_copy_94 : decode cX9_copy 94 = .ok (.ldc_w 357, 3) := by decide +kernel
theorem dX9_copy_97 : decode cX9_copy 97 = .ok (.ireturn, 1) := by decide +kernel
theorem dX9_copy_98 : decode cX9_copy 98 = .ok (.aload 6, 2) := by decide +kernel
theorem dX9_copy_100 : decode cX9_copy 100 = .ok (.getfield 360, 3) := by decide +kernel
theorem dX9_copy_103 : decode cX9_copy 103 = .ok (.iload_n 2, 1) := by decide +kernel
theorem dX9_copy_104 : decode cX9_copy 104 = .ok (.aload 7, 2) := by decide +kernel
theorem dX9_copy_106 : decode cX9_copy 106 = .ok (.getfield 360, 3) := by decide +kernel
theorem dX9_copy_109 : decode cX9_copy 109 = .ok (.iload 4, 2) := by decide +kernel
theorem dX9_copy_111 : decode cX9_copy 111 = .ok (.iload 5, 2) := by decide +kernel
theorem dX9_copy_113 : decode cX9_copy 113 = .ok (.invokestatic 259, 3) := by decide +kernel
theorem dX9_copy_116 : decode cX9_copy 116 = .ok (.iload 5, 2) := by decide +kernel
theorem dX9_copy_118 : decode cX9_copy 118 = .ok (.ireturn, 1) := by decide +kernel
theorem dX9_lay_0 : decode cX9_lay 0 = .ok (.iload_n 1, 1) := by decide +kernel
theorem dX9_lay_1 : decode cX9_lay 1 = .ok (.invokestatic 366, 3) := by decide +kernel
theorem dX9_lay_4 : decode cX9_lay 4 = .ok (.ifCond .eq 12, 3) := by decide +kernel
theorem dX9_lay_7 : decode cX9_lay 7 = .ok (.iload_n 2, 1) := by decide +kernel
theorem dX9_lay_8 : decode cX9_lay 8 = .ok (.iconst 0, 1) := by decide +kernel
theorem dX9_lay_9 : decode cX9_lay 9 = .ok (.iconst 3, 1) := by decide +kernel
theorem dX9_lay_10 : decode cX9_lay 10 = .ok (.invokestatic 79, 3) := by decide +kernel
theorem dX9_lay_13 : decode cX9_lay 13 = .ok (.ifCond .ne 6, 3) := by decide +kernel
theorem dX9_lay_16 : decode cX9_lay 16 = .ok (.ldc 83, 2) := by decide +kernel
theorem dX9_lay_18 : decode cX9_lay 18 = .ok (.ireturn, 1) := by decide +kernel
theorem dX9_lay_19 : decode cX9_lay 19 = .ok (.iload_n 2, 1) := by decide +kernel
theorem dX9_lay_20 : decode cX9_lay 20 = .ok (.iconst 1, 1) := by decide +kernel
theorem dX9_lay_21 : decode cX9_lay 21 = .ok (.if_icmp .ne 14, 3) := by decide +kernel
theorem dX9_lay_24 : decode cX9_lay 24 = .ok (.aload_n 0, 1) := by decide +kernel
theorem dX9_lay_25 : decode cX9_lay 25 = .ok (.getfield 10, 3) := by decide +kernel
theorem dX9_lay_28 : decode cX9_lay 28 = .ok (.iload_n 3, 1) := by decide +kernel
theorem dX9_lay_29 : decode cX9_lay 29 = .ok (.invokevirtual 154, 3) := by decide +kernel
theorem dX9_lay_32 : decode cX9_lay 32 = .ok (.ifCond .eq 15, 3) := by decide +kernel
theorem dX9_lay_35 : decode cX9_lay 35 = .ok (.iload_n 2, 1) := by decide +kernel
theorem dX9_lay_36 : decode cX9_lay 36 = .ok (.iconst 2, 1) := by decide +kernel
theorem dX9_lay_37 : decode cX9_lay 37 = .ok (.if_icmp .ne 13, 3) := by decide +kernel
theorem dX9_lay_40 : decode cX9_lay 40 = .ok (.iload_n 3, 1) := by decide +kernel
theorem dX9_lay_41 : decode cX9_lay 41 = .ok (.invokestatic 343, 3) := by decide +kernel
theorem dX9_lay_44 : decode cX9_lay 44 = .ok (.ifCond .ne 6, 3) := by decide +kernel
theorem dX9_lay_47 : decode cX9_lay 47 = .ok (.ldc 83, 2) := by decide +kernel
theorem dX9_lay_49 : decode cX9_lay 49 = .ok (.ireturn, 1) := by decide +kernel
theorem dX9_lay_50 : decode cX9_lay 50 = .ok (.iload_n 2, 1) := by decide +kernel
theorem dX9_lay_51 : decode cX9_lay 51 = .ok (.iconst 2, 1) := by decide +kernel
theorem dX9_lay_52 : decode cX9_lay 52 = .ok (.if_icmp .ne 20, 3) := by decide +kernel
theorem dX9_lay_55 : decode cX9_lay 55 = .ok (.aload_n 0, 1) := by decide +kernel
theorem dX9_lay_56 : decode cX9_lay 56 = .ok (.getfield 47, 3) := by decide +kernel
theorem dX9_lay_59 : decode cX9_lay 59 = .ok (.iload_n 3, 1) := by decide +kernel
theorem dX9_lay_60 : decode cX9_lay 60 = .ok (.aaload, 1) := by decide +kernel
theorem dX9_lay_61 : decode cX9_lay 61 = .ok (.getfield 350, 3) := by decide +kernel
theorem dX9_lay_64 : decode cX9_lay 64 = .ok (.iconst (-1), 1) := by decide +kernel
theorem dX9_lay_65 : decode cX9_lay 65 = .ok (.if_icmp .ne 7, 3) := by decide +kernel
theorem dX9_lay_68 : decode cX9_lay 68 = .ok (.ldc_w 353, 3) := by decide +kernel
theorem dX9_lay_71 : decode cX9_lay 71 = .ok (.ireturn, 1) := by decide +kernel
theorem dX9_lay_72 : decode cX9_lay 72 = .ok (.aload_n 0, 1) := by decide +kernel
theorem dX9_lay_73 : decode cX9_lay 73 = .ok (.getfield 53, 3) := by decide +kernel
theorem dX9_lay_76 : decode cX9_lay 76 = .ok (.iload_n 1, 1) := by decide +kernel
theorem dX9_lay_77 : decode cX9_lay 77 = .ok (.aaload, 1) := by decide +kernel
theorem dX9_lay_78 : decode cX9_lay 78 = .ok (.astore 4, 2) := by decide +kernel
theorem dX9_lay_80 : decode cX9_lay 80 = .ok (.aload 4, 2) := by decide +kernel
theorem dX9_lay_82 : decode cX9_lay 82 = .ok (.getfield 369, 3) := by decide +kernel
theorem dX9_lay_85 : decode cX9_lay 85 = .ok (.istore 5, 2) := by decide +kernel
theorem dX9_lay_87 : decode cX9_lay 87 = .ok (.aload 4, 2) := by decide +kernel
theorem dX9_lay_89 : decode cX9_lay 89 = .ok (.iload_n 2, 1) := by decide +kernel
theorem dX9_lay_90 : decode cX9_lay 90 = .ok (.putfield 369, 3) := by decide +kernel
theorem dX9_lay_93 : decode cX9_lay 93 = .ok (.iload_n 2, 1) := by decide +kernel
theorem dX9_lay_94 : decode cX9_lay 94 = .ok (.iconst 1, 1) := by decide +kernel
theorem dX9_lay_95 : decode cX9_lay 95 = .ok (.if_icmp .ne 23, 3) := by decide +kernel
theorem dX9_lay_98 : decode cX9_lay 98 = .ok (.aload 4, 2) := by decide +kernel
theorem dX9_lay_100 : decode cX9_lay 100 = .ok (.getfield 372, 3) := by decide +kernel
theorem dX9_lay_103 : decode cX9_lay 103 = .ok (.aload_n 0, 1) := by decide +kernel
theorem dX9_lay_104 : decode cX9_lay 104 = .ok (.getfield 10, 3) := by decide +kernel
theorem dX9_lay_107 : decode cX9_lay 107 = .ok (.getfield 157, 3) := by decide +kernel
theorem dX9_lay_110 : decode cX9_lay 110 = .ok (.iload_n 3, 1) := by decide +kernel
theorem dX9_lay_111 : decode cX9_lay 111 = .ok (.aaload, 1) := by decide +kernel
theorem dX9_lay_112 : decode cX9_lay 112 = .ok (.invokevirtual 376, 3) := by decide +kernel
theorem dX9_lay_115 : decode cX9_lay 115 = .ok (.goto 36, 3) := by decide +kernel
theorem dX9_lay_118 : decode cX9_lay 118 = .ok (.iload_n 2, 1) := by decide +kernel
theorem dX9_lay_119 : decode cX9_lay 119 = .ok (.iconst 2, 1) := by decide +kernel
theorem dX9_lay_120 : decode cX9_lay 120 = .ok (.if_icmp .ne 20, 3) := by decide +kernel
theorem dX9_lay_123 : decode cX9_lay 123 = .ok (.aload 4, 2) := by decide +kernel
theorem dX9_lay_125 : decode cX9_lay 125 = .ok (.getfield 379, 3) := by decide +kernel
theorem dX9_lay_128 : decode cX9_lay 128 = .ok (.aload_n 0, 1) := by decide +kernel
theorem dX9_lay_129 : decode cX9_lay 129 = .ok (.getfield 47, 3) := by decide +kernel
theorem dX9_lay_132 : decode cX9_lay 132 = .ok (.iload_n 3, 1) := by decide +kernel
theorem dX9_lay_133 : decode cX9_lay 133 = .ok (.aaload, 1) := by decide +kernel
theorem dX9_lay_134 : decode cX9_lay 134 = .ok (.invokevirtual 383, 3) := by decide +kernel
theorem dX9_lay_137 : decode cX9_lay 137 = .ok (.goto 14, 3) := by decide +kernel
theorem dX9_lay_140 : decode cX9_lay 140 = .ok (.iload_n 2, 1) := by decide +kernel
theorem dX9_lay_141 : decode cX9_lay 141 = .ok (.iconst 3, 1) := by decide +kernel
theorem dX9_lay_142 : decode cX9_lay 142 = .ok (.if_icmp .ne 9, 3) := by decide +kernel
theorem dX9_lay_145 : decode cX9_lay 145 = .ok (.aload 4, 2) := by decide +kernel
theorem dX9_lay_147 : decode cX9_lay 147 = .ok (.iload_n 3, 1) := by decide +kernel
theorem dX9_lay_148 : decode cX9_lay 148 = .ok (.putfield 387, 3) := by decide +kernel
theorem dX9_lay_151 : decode cX9_lay 151 = .ok (.iload 5, 2) := by decide +kernel
theorem dX9_lay_153 : decode cX9_lay 153 = .ok (.ireturn, 1) := by decide +kernel
theorem dX9_ask_0 : decode cX9_ask 0 = .ok (.iload_n 1, 1) := by decide +kernel
theorem dX9_ask_1 : decode cX9_ask 1 = .ok (.invokestatic 366, 3) := by decide +kernel
theorem dX9_ask_4 : decode cX9_ask 4 = .ok (.ifCond .eq 10, 3) := by decide +kernel
theorem dX9_ask_7 : decode cX9_ask 7 = .ok (.iload_n 2, 1) := by decide +kernel
theorem dX9_ask_8 : decode cX9_ask 8 = .ok (.invokestatic 144, 3) := by decide +kernel
theorem dX9_ask_11 : decode cX9_ask 11 = .ok (.ifCond .ne 6, 3) := by decide +kernel
theorem dX9_ask_14 : decode cX9_ask 14 = .ok (.ldc 83, 2) := by decide +kernel
theorem dX9_ask_16 : decode cX9_ask 16 = .ok (.ireturn, 1) := by decide +kernel
theorem dX9_ask_17 : decode cX9_ask 17 = .ok (.aload_n 0, 1) := by decide +kernel
theorem dX9_ask_18 : decode cX9_ask 18 = .ok (.getfield 53, 3) := by decide +kernel
theorem dX9_ask_21 : decode cX9_ask 21 = .ok (.iload_n 1, 1) := by decide +kernel
theorem dX9_ask_22 : decode cX9_ask 22 = .ok (.aaload, 1) := by decide +kernel
theorem dX9_ask_23 : decode cX9_ask 23 = .ok (.iconst 1, 1) := by decide +kernel
theorem dX9_ask_24 : decode cX9_ask 24 = .ok (.invokevirtual 390, 3) := by decide +kernel
theorem dX9_ask_27 : decode cX9_ask 27 = .ok (.istore_n 3, 1) := by decide +kernel
theorem dX9_ask_28 : decode cX9_ask 28 = .ok (.iload_n 3, 1) := by decide +kernel
theorem dX9_ask_29 : decode cX9_ask 29 = .ok (.ifCond .eq 5, 3) := by decide +kernel
theorem dX9_ask_32 : decode cX9_ask 32 = .ok (.iload_n 3, 1) := by decide +kernel
theorem dX9_ask_33 : decode cX9_ask 33 = .ok (.ireturn, 1) := by decide +kernel
theorem dX9_ask_34 : decode cX9_ask 34 = .ok (.aload_n 0, 1) := by decide +kernel
theorem dX9_ask_35 : decode cX9_ask 35 = .ok (.getfield 53, 3) := by decide +kernel
theorem dX9_ask_38 : decode cX9_ask 38 = .ok (.iload_n 1, 1) := by decide +kernel
theorem dX9_ask_39 : decode cX9_ask 39 = .ok (.aaload, 1) := by decide +kernel
theorem dX9_ask_40 : decode cX9_ask 40 = .ok (.getfield 372, 3) := by decide +kernel
theorem dX9_ask_43 : decode cX9_ask 43 = .ok (.astore 4, 2) := by decide +kernel
theorem dX9_ask_45 : decode cX9_ask 45 = .ok (.aload 4, 2) := by decide +kernel
theorem dX9_ask_47 : decode cX9_ask 47 = .ok (.getfield 161, 3) := by decide +kernel
theorem dX9_ask_50 : decode cX9_ask 50 = .ok (.iload_n 2, 1) := by decide +kernel
theorem dX9_ask_51 : decode cX9_ask 51 = .ok (.invokestatic 189, 3) := by decide +kernel
theorem dX9_ask_54 : decode cX9_ask 54 = .ok (.ifCond .eq 11, 3) := by decide +kernel
theorem dX9_ask_57 : decode cX9_ask 57 = .ok (.aload 4, 2) := by decide +kernel
theorem dX9_ask_59 : decode cX9_ask 59 = .ok (.invokevirtual 182, 3) := by decide +kernel
theorem dX9_ask_62 : decode cX9_ask 62 = .ok (.goto 5, 3) := by decide +kernel
theorem dX9_ask_65 : decode cX9_ask 65 = .ok (.ldc 193, 2) := by decide +kernel
theorem dX9_ask_67 : decode cX9_ask 67 = .ok (.ireturn, 1) := by decide +kernel
theorem dX9_item_0 : decode cX9_item 0 = .ok (.iload_n 1, 1) := by decide +kernel
theorem dX9_item_1 : decode cX9_item 1 = .ok (.invokestatic 366, 3) := by decide +kernel
theorem dX9_item_4 : decode cX9_item 4 = .ok (.ifCond .ne 6, 3) := by decide +kernel
theorem dX9_item_7 : decode cX9_item 7 = .ok (.ldc 83, 2) := by decide +kernel
theorem dX9_item_9 : decode cX9_item 9 = .ok (.ireturn, 1) := by decide +kernel
theorem dX9_item_10 : decode cX9_item 10 = .ok (.aload_n 0, 1) := by decide +kernel
theorem dX9_item_11 : decode cX9_item 11 = .ok (.getfield 53, 3) := by decide +kernel
theorem dX9_item_14 : decode cX9_item 14 = .ok (.iload_n 1, 1) := by decide +kernel
theorem dX9_item_15 : decode cX9_item 15 = .ok (.aaload, 1) := by decide +kernel
theorem dX9_item_16 : decode cX9_item 16 = .ok (.iconst 2, 1) := by decide +kernel
theorem dX9_item_17 : decode cX9_item 17 = .ok (.invokevirtual 390, 3) := by decide +kernel
theorem dX9_item_20 : decode cX9_item 20 = .ok (.istore_n 3, 1) := by decide +kernel
theorem dX9_item_21 : decode cX9_item 21 = .ok (.iload_n 3, 1) := by decide +kernel
theorem dX9_item_22 : decode cX9_item 22 = .ok (.ifCond .eq 5, 3) := by decide +kernel
theorem dX9_item_25 : decode cX9_item 25 = .ok (.iload_n 3, 1) := by decide +kernel
theorem dX9_item_26 : decode cX9_item 26 = .ok (.ireturn, 1) := by decide +kernel
theorem dX9_item_27 : decode cX9_item 27 = .ok (.aload_n 0, 1) := by decide +kernel
theorem dX9_item_28 : decode cX9_item 28 = .ok (.getfield 53, 3) := by decide +kernel
theorem dX9_item_31 : decode cX9_item 31 = .ok (.iload_n 1, 1) := by decide +kernel
theorem dX9_item_32 : decode cX9_item 32 = .ok (.aaload, 1) := by decide +kernel
theorem dX9_item_33 : decode cX9_item 33 = .ok (.getfield 379, 3) := by decide +kernel
theorem dX9_item_36 : decode cX9_item 36 = .ok (.astore 4, 2) := by decide +kernel
theorem dX9_item_38 : decode cX9_item 38 = .ok (.aload 4, 2) := by decide +kernel
theorem dX9_item_40 : decode cX9_item 40 = .ok (.iload_n 2, 1) := by decide +kernel
theorem dX9_item_41 : decode cX9_item 41 = .ok (.iconst 1, 1) := by decide +kernel
theorem dX9_item_42 : decode cX9_item 42 = .ok (.invokevirtual 354, 3) := by decide +kernel
theorem dX9_item_45 : decode cX9_item 45 = .ok (.ifCond .ne 7, 3) := by decide +kernel
theorem dX9_item_48 : decode cX9_item 48 = .ok (.ldc_w 357, 3) := by decide +kernel
theorem dX9_item_51 : decode cX9_item 51 = .ok (.ireturn, 1) := by decide +kernel
theorem dX9_item_52 : decode cX9_item 52 = .ok (.aload 4, 2) := by decide +kernel
theorem dX9_item_54 : decode cX9_item 54 = .ok (.getfield 360, 3) := by decide +kernel
theorem dX9_item_57 : decode cX9_item 57 = .ok (.iload_n 2, 1) := by decide +kernel
theorem dX9_item_58 : decode cX9_item 58 = .ok (.iaload, 1) := by decide +kernel
theorem dX9_item_59 : decode cX9_item 59 = .ok (.ldc 121, 2) := by decide +kernel
theorem dX9_item_61 : decode cX9_item 61 = .ok (.if_icmp .ne 8, 3) := by decide +kernel
theorem dX9_item_64 : decode cX9_item 64 = .ok (.ldc 193, 2) := by decide +kernel
theorem dX9_item_66 : decode cX9_item 66 = .ok (.goto 10, 3) := by decide +kernel
theorem dX9_item_69 : decode cX9_item 69 = .ok (.aload 4, 2) := by decide +kernel
theorem dX9_item_71 : decode cX9_item 71 = .ok (.getfield 360, 3) := by decide +kernel
theorem dX9_item_74 : decode cX9_item 74 = .ok (.iload_n 2, 1) := by decide +kernel
theorem dX9_item_75 : decode cX9_item 75 = .ok (.iaload, 1) := by decide +kernel
theorem dX9_item_76 : decode cX9_item 76 = .ok (.ireturn, 1) := by decide +kernel
theorem dX9_rest_0 : decode cX9_rest 0 = .ok (.iload_n 1, 1) := by decide +kernel
theorem dX9_rest_1 : decode cX9_rest 1 = .ok (.invokestatic 366, 3) := by decide +kernel
theorem dX9_rest_4 : decode cX9_rest 4 = .ok (.ifCond .ne 6, 3) := by decide +kernel
theorem dX9_rest_7 : decode cX9_rest 7 = .ok (.ldc 83, 2) := by decide +kernel
theorem dX9_rest_9 : decode cX9_rest 9 = .ok (.ireturn, 1) := by decide +kernel
theorem dX9_rest_10 : decode cX9_rest 10 = .ok (.aload_n 0, 1) := by decide +kernel
theorem dX9_rest_11 : decode cX9_rest 11 = .ok (.getfield 53, 3) := by decide +kernel
theorem dX9_rest_14 : decode cX9_rest 14 = .ok (.iload_n 1, 1) := by decide +kernel
theorem dX9_rest_15 : decode cX9_rest 15 = .ok (.aaload, 1) := by decide +kernel
theorem dX9_rest_16 : decode cX9_rest 16 = .ok (.iconst 3, 1) := by decide +kernel
theorem dX9_rest_17 : decode cX9_rest 17 = .ok (.invokevirtual 390, 3) := by decide +kernel
theorem dX9_rest_20 : decode cX9_rest 20 = .ok (.istore_n 3, 1) := by decide +kernel
theorem dX9_rest_21 : decode cX9_rest 21 = .ok (.iload_n 3, 1) := by decide +kernel
theorem dX9_rest_22 : decode cX9_rest 22 = .ok (.ifCond .eq 5, 3) := by decide +kernel
theorem dX9_rest_25 : decode cX9_rest 25 = .ok (.iload_n 3, 1) := by decide +kernel
theorem dX9_rest_26 : decode cX9_rest 26 = .ok (.ireturn, 1) := by decide +kernel
theorem dX9_rest_27 : decode cX9_rest 27 = .ok (.iload_n 2, 1) := by decide +kernel
theorem dX9_rest_28 : decode cX9_rest 28 = .ok (.ifCond .ne 8, 3) := by decide +kernel
theorem dX9_rest_31 : decode cX9_rest 31 = .ok (.ldc 232, 2) := by decide +kernel
theorem dX9_rest_33 : decode cX9_rest 33 = .ok (.goto 14, 3) := by decide +kernel
theorem dX9_rest_36 : decode cX9_rest 36 = .ok (.aload_n 0, 1) := by decide +kernel
theorem dX9_rest_37 : decode cX9_rest 37 = .ok (.getfield 53, 3) := by decide +kernel
theorem dX9_rest_40 : decode cX9_rest 40 = .ok (.iload_n 1, 1) := by decide +kernel
theorem dX9_rest_41 : decode cX9_rest 41 = .ok (.aaload, 1) := by decide +kernel
theorem dX9_rest_42 : decode cX9_rest 42 = .ok (.getfield 387, 3) := by decide +kernel
theorem dX9_rest_45 : decode cX9_rest 45 = .ok (.iload_n 2, 1) := by decide +kernel
theorem dX9_rest_46 : decode cX9_rest 46 = .ok (.irem, 1) := by decide +kernel
theorem dX9_rest_47 : decode cX9_rest 47 = .ok (.ireturn, 1) := by decide +kernel
theorem dX9_tell_0 : decode cX9_tell 0 = .ok (.aload_n 0, 1) := by decide +kernel
theorem dX9_tell_1 : decode cX9_tell 1 = .ok (.getfield 393, 3) := by decide +kernel
theorem dX9_tell_4 : decode cX9_tell 4 = .ok (.bipush 60, 2) := by decide +kernel
theorem dX9_tell_6 : decode cX9_tell 6 = .ok (.if_icmp .lt 6, 3) := by decide +kernel
theorem dX9_tell_9 : decode cX9_tell 9 = .ok (.ldc 88, 2) := by decide +kernel
theorem dX9_tell_11 : decode cX9_tell 11 = .ok (.ireturn, 1) := by decide +kernel
theorem dX9_tell_12 : decode cX9_tell 12 = .ok (.aload_n 0, 1) := by decide +kernel
theorem dX9_tell_13 : decode cX9_tell 13 = .ok (.getfield 57, 3) := by decide +kernel
theorem dX9_tell_16 : decode cX9_tell 16 = .ok (.aload_n 0, 1) := by decide +kernel
theorem dX9_tell_17 : decode cX9_tell 17 = .ok (.getfield 393, 3) := by decide +kernel
theorem dX9_tell_20 : decode cX9_tell 20 = .ok (.iload_n 1, 1) := by decide +kernel
theorem dX9_tell_21 : decode cX9_tell 21 = .ok (.iastore, 1) := by decide +kernel
theorem dX9_tell_22 : decode cX9_tell 22 = .ok (.aload_n 0, 1) := by decide +kernel
theorem dX9_tell_23 : decode cX9_tell 23 = .ok (.dup, 1) := by decide +kernel
theorem dX9_tell_24 : decode cX9_tell 24 = .ok (.getfield 393, 3) := by decide +kernel
theorem dX9_tell_27 : decode cX9_tell 27 = .ok (.iconst 1, 1) := by decide +kernel
theorem dX9_tell_28 : decode cX9_tell 28 = .ok (.iadd, 1) := by decide +kernel
theorem dX9_tell_29 : decode cX9_tell 29 = .ok (.putfield 393, 3) := by decide +kernel
theorem dX9_tell_32 : decode cX9_tell 32 = .ok (.aload_n 0, 1) := by decide +kernel
theorem dX9_tell_33 : decode cX9_tell 33 = .ok (.getfield 393, 3) := by decide +kernel
theorem dX9_tell_36 : decode cX9_tell 36 = .ok (.ireturn, 1) := by decide +kernel
theorem dX9_check_0 : decode cX9_check 0 = .ok (.aload_n 0, 1) := by decide +kernel
theorem dX9_check_1 : decode cX9_check 1 = .ok (.getfield 393, 3) := by decide +kernel
theorem dX9_check_4 : decode cX9_check 4 = .ok (.istore_n 2, 1) := by decide +kernel
theorem dX9_check_5 : decode cX9_check 5 = .ok (.aload_n 0, 1) := by decide +kernel
theorem dX9_check_6 : decode cX9_check 6 = .ok (.iconst 0, 1) := by decide +kernel
theorem dX9_check_7 : decode cX9_check 7 = .ok (.putfield 393, 3) := by decide +kernel
theorem dX9_check_10 : decode cX9_check 10 = .ok (.iload_n 1, 1) := by decide +kernel
theorem dX9_check_11 : decode cX9_check 11 = .ok (.iconst 1, 1) := by decide +kernel
theorem dX9_check_12 : decode cX9_check 12 = .ok (.bipush 30, 2) := by decide +kernel
theorem dX9_check_14 : decode cX9_check 14 = .ok (.invokestatic 79, 3) := by decide +kernel
theorem dX9_check_17 : decode cX9_check 17 = .ok (.ifCond .ne 6, 3) := by decide +kernel
theorem dX9_check_20 : decode cX9_check 20 = .ok (.ldc 83, 2) := by decide +kernel
theorem dX9_check_22 : decode cX9_check 22 = .ok (.ireturn, 1) := by decide +kernel
theorem dX9_check_23 : decode cX9_check 23 = .ok (.aload_n 0, 1) := by decide +kernel
theorem dX9_check_24 : decode cX9_check 24 = .ok (.getfield 396, 3) := by decide +kernel
theorem dX9_check_27 : decode cX9_check 27 = .ok (.ifCond .eq 30, 3) := by decide +kernel
theorem dX9_check_30 : decode cX9_check 30 = .ok (.aload_n 0, 1) := by decide +kernel
theorem dX9_check_31 : decode cX9_check 31 = .ok (.getfield 22, 3) := by decide +kernel
theorem dX9_check_34 : decode cX9_check 34 = .ok (.aload_n 0, 1) := by decide +kernel
theorem dX9_check_35 : decode cX9_check 35 = .ok (.getfield 16, 3) := by decide +kernel
theorem dX9_check_38 : decode cX9_check 38 = .ok (.invokevirtual 109, 3) := by decide +kernel
theorem dX9_check_41 : decode cX9_check 41 = .ok (.invokevirtual 113, 3) := by decide +kernel
theorem dX9_check_44 : decode cX9_check 44 = .ok (.ifCond .eq 13, 3) := by decide +kernel
theorem dX9_check_47 : decode cX9_check 47 = .ok (.aload_n 0, 1) := by decide +kernel
theorem dX9_check_48 : decode cX9_check 48 = .ok (.getfield 22, 3) := by decide +kernel
theorem dX9_check_51 : decode cX9_check 51 = .ok (.getfield 209, 3) := by decide +kernel
theorem dX9_check_54 : decode cX9_check 54 = .ok (.ifCond .ne 6, 3) := by decide +kernel
theorem dX9_check_57 : decode cX9_check 57 = .ok (.ldc 232, 2) := by decide +kernel
theorem dX9_check_59 : decode cX9_check 59 = .ok (.ireturn, 1) := by decide +kernel
theorem dX9_check_60 : decode cX9_check 60 = .ok (.aload_n 0, 1) := by decide +kernel
theorem dX9_check_61 : decode cX9_check 61 = .ok (.iload_n 1, 1) := by decide +kernel
theorem dX9_check_62 : decode cX9_check 62 = .ok (.iload_n 2, 1) := by decide +kernel
theorem dX9_check_63 : decode cX9_check 63 = .ok (.invokevirtual 400, 3) := by decide +kernel
theorem dX9_check_66 : decode cX9_check 66 = .ok (.istore_n 3, 1) := by decide +kernel
theorem dX9_check_67 : decode cX9_check 67 = .ok (.iload_n 3, 1) := by decide +kernel
theorem dX9_check_68 : decode cX9_check 68 = .ok (.iconst 2, 1) := by decide +kernel
theorem dX9_check_69 : decode cX9_check 69 = .ok (.iload_n 1, 1) := by decide +kernel
theorem dX9_check_70 : decode cX9_check 70 = .ok (.imul, 1) := by decide +kernel
theorem dX9_check_71 : decode cX9_check 71 = .ok (.if_icmp .ne 12, 3) := by decide +kernel
theorem dX9_check_74 : decode cX9_check 74 = .ok (.iload_n 3, 1) := by decide +kernel
theorem dX9_check_75 : decode cX9_check 75 = .ok (.iload_n 2, 1) := by decide +kernel
theorem dX9_check_76 : decode cX9_check 76 = .ok (.if_icmp .ne 7, 3) := by decide +kernel
theorem dX9_check_79 : decode cX9_check 79 = .ok (.iconst 0, 1) := by decide +kernel
theorem dX9_check_80 : decode cX9_check 80 = .ok (.goto 6, 3) := by decide +kernel
theorem dX9_check_83 : decode cX9_check 83 = .ok (.iconst 1, 1) := by decide +kernel
theorem dX9_check_84 : decode cX9_check 84 = .ok (.iload_n 3, 1) := by decide +kernel
theorem dX9_check_85 : decode cX9_check 85 = .ok (.iadd, 1) := by decide +kernel
theorem dX9_check_86 : decode cX9_check 86 = .ok (.ireturn, 1) := by decide +kernel
theorem dX9_rightOnes_0 : decode cX9_rightOnes 0 = .ok (.aload_n 0, 1) := by decide +kernel
theorem dX9_rightOnes_1 : decode cX9_rightOnes 1 = .ok (.getfield 29, 3) := by decide +kernel
theorem dX9_rightOnes_4 : decode cX9_rightOnes 4 = .ok (.aload_n 0, 1) := by decide +kernel
theorem dX9_rightOnes_5 : decode cX9_rightOnes 5 = .ok (.getfield 16, 3) := by decide +kernel
theorem dX9_rightOnes_8 : decode cX9_rightOnes 8 = .ok (.aload_n 0, 1) := by decide +kernel
theorem dX9_rightOnes_9 : decode cX9_rightOnes 9 = .ok (.getfield 22, 3) := by decide +kernel
theorem dX9_rightOnes_12 : decode cX9_rightOnes 12 = .ok (.invokevirtual 322, 3) := by decide +kernel
theorem dX9_rightOnes_15 : decode cX9_rightOnes 15 = .ok (.iconst 0, 1) := by decide +kernel
theorem dX9_rightOnes_16 : decode cX9_rightOnes 16 = .ok (.istore_n 3, 1) := by decide +kernel
theorem dX9_rightOnes_17 : decode cX9_rightOnes 17 = .ok (.iconst 1, 1) := by decide +kernel
theorem dX9_rightOnes_18 : decode cX9_rightOnes 18 = .ok (.istore 4, 2) := by decide +kernel
theorem dX9_rightOnes_20 : decode cX9_rightOnes 20 = .ok (.iload 4, 2) := by decide +kernel
theorem dX9_rightOnes_22 : decode cX9_rightOnes 22 = .ok (.iload_n 1, 1) := by decide +kernel
theorem dX9_rightOnes_23 : decode cX9_rightOnes 23 = .ok (.if_icmp .gt 70, 3) := by decide +kernel
theorem dX9_rightOnes_26 : decode cX9_rightOnes 26 = .ok (.aload_n 0, 1) := by decide +kernel
theorem dX9_rightOnes_27 : decode cX9_rightOnes 27 = .ok (.getfield 29, 3) := by decide +kernel
theorem dX9_rightOnes_30 : decode cX9_rightOnes 30 = .ok (.iload 4, 2) := by decide +kernel
theorem dX9_rightOnes_32 : decode cX9_rightOnes 32 = .ok (.invokevirtual 326, 3) := by decide +kernel
theorem dX9_rightOnes_35 : decode cX9_rightOnes 35 = .ok (.iload_n 3, 1) := by decide +kernel
theorem dX9_rightOnes_36 : decode cX9_rightOnes 36 = .ok (.iload_n 2, 1) := by decide +kernel
theorem dX9_rightOnes_37 : decode cX9_rightOnes 37 = .ok (.if_icmp .ge 19, 3) := by decide +kernel
theorem dX9_rightOnes_40 : decode cX9_rightOnes 40 = .ok (.aload_n 0, 1) := by decide +kernel
theorem dX9_rightOnes_41 : decode cX9_rightOnes 41 = .ok (.getfield 57, 3) := by decide +kernel
theorem dX9_rightOnes_44 : decode cX9_rightOnes 44 = .ok (.iload_n 3, 1) := by decide +kernel
theorem dX9_rightOnes_45 : decode cX9_rightOnes 45 = .ok (.iaload, 1) := by decide +kernel
theorem dX9_rightOnes_46 : decode cX9_rightOnes 46 = .ok (.aload_n 0, 1) := by decide +kernel
theorem dX9_rightOnes_47 : decode cX9_rightOnes 47 = .ok (.getfield 29, 3) := by decide +kernel
theorem dX9_rightOnes_50 : decode cX9_rightOnes 50 = .ok (.invokevirtual 332, 3) := by decide +kernel
theorem dX9_rightOnes_53 : decode cX9_rightOnes 53 = .ok (.if_icmp .eq 5, 3) := by decide +kernel
theorem dX9_rightOnes_56 : decode cX9_rightOnes 56 = .ok (.iload_n 3, 1) := by decide +kernel
theorem dX9_rightOnes_57 : decode cX9_rightOnes 57 = .ok (.ireturn, 1) := by decide +kernel
theorem dX9_rightOnes_58 : decode cX9_rightOnes 58 = .ok (.iinc 3 1, 3) := by decide +kernel
theorem dX9_rightOnes_61 : decode cX9_rightOnes 61 = .ok (.iload_n 3, 1) := by decide +kernel
theorem dX9_rightOnes_62 : decode cX9_rightOnes 62 = .ok (.iload_n 2, 1) := by decide +kernel
theorem dX9_rightOnes_63 : decode cX9_rightOnes 63 = .ok (.if_icmp .ge 19, 3) := by decide +kernel
theorem dX9_rightOnes_66 : decode cX9_rightOnes 66 = .ok (.aload_n 0, 1) := by decide +kernel
theorem dX9_rightOnes_67 : decode cX9_rightOnes 67 = .ok (.getfield 57, 3) := by decide +kernel
theorem dX9_rightOnes_70 : decode cX9_rightOnes 70 = .ok (.iload_n 3, 1) := by decide +kernel
theorem dX9_rightOnes_71 : decode cX9_rightOnes 71 = .ok (.iaload, 1) := by decide +kernel
theorem dX9_rightOnes_72 : decode cX9_rightOnes 72 = .ok (.aload_n 0, 1) := by decide +kernel
theorem dX9_rightOnes_73 : decode cX9_rightOnes 73 = .ok (.getfield 29, 3) := by decide +kernel
theorem dX9_rightOnes_76 : decode cX9_rightOnes 76 = .ok (.invokevirtual 329, 3) := by decide +kernel
theorem dX9_rightOnes_79 : decode cX9_rightOnes 79 = .ok (.if_icmp .eq 5, 3) := by decide +kernel
theorem dX9_rightOnes_82 : decode cX9_rightOnes 82 = .ok (.iload_n 3, 1) := by decide +kernel
theorem dX9_rightOnes_83 : decode cX9_rightOnes 83 = .ok (.ireturn, 1) := by decide +kernel
theorem dX9_rightOnes_84 : decode cX9_rightOnes 84 = .ok (.iinc 3 1, 3) := by decide +kernel
theorem dX9_rightOnes_87 : decode cX9_rightOnes 87 = .ok (.iinc 4 1, 3) := by decide +kernel
theorem dX9_rightOnes_90 : decode cX9_rightOnes 90 = .ok (.goto (-70), 3) := by decide +kernel
theorem dX9_rightOnes_93 : decode cX9_rightOnes 93 = .ok (.iload_n 3, 1) := by decide +kernel
theorem dX9_rightOnes_94 : decode cX9_rightOnes 94 = .ok (.ireturn, 1) := by decide +kernel
theorem dX9_keep_0 : decode cX9_keep 0 = .ok (.aload_n 0, 1) := by decide +kernel
theorem dX9_keep_1 : decode cX9_keep 1 = .ok (.getfield 16, 3) := by decide +kernel
theorem dX9_keep_4 : decode cX9_keep 4 = .ok (.aload_n 0, 1) := by decide +kernel
theorem dX9_keep_5 : decode cX9_keep 5 = .ok (.getfield 10, 3) := by decide +kernel
theorem dX9_keep_8 : decode cX9_keep 8 = .ok (.invokevirtual 403, 3) := by decide +kernel
theorem dX9_keep_11 : decode cX9_keep 11 = .ok (.aload_n 0, 1) := by decide +kernel
theorem dX9_keep_12 : decode cX9_keep 12 = .ok (.iconst 1, 1) := by decide +kernel
theorem dX9_keep_13 : decode cX9_keep 13 = .ok (.putfield 396, 3) := by decide +kernel
theorem dX9_keep_16 : decode cX9_keep 16 = .ok (.aload_n 0, 1) := by decide +kernel
theorem dX9_keep_17 : decode cX9_keep 17 = .ok (.getfield 10, 3) := by decide +kernel
theorem dX9_keep_20 : decode cX9_keep 20 = .ok (.getfield 84, 3) := by decide +kernel
theorem dX9_keep_23 : decode cX9_keep 23 = .ok (.ireturn, 1) := by decide +kernel
theorem dX9_back_0 : decode cX9_back 0 = .ok (.aload_n 0, 1) := by decide +kernel
theorem dX9_back_1 : decode cX9_back 1 = .ok (.getfield 396, 3) := by decide +kernel
theorem dX9_back_4 : decode cX9_back 4 = .ok (.ifCond .ne 6, 3) := by decide +kernel
theorem dX9_back_7 : decode cX9_back 7 = .ok (.ldc 232, 2) := by decide +kernel
theorem dX9_back_9 : decode cX9_back 9 = .ok (.ireturn, 1) := by decide +kernel
theorem dX9_back_10 : decode cX9_back 10 = .ok (.aload_n 0, 1) := by decide +kernel
theorem dX9_back_11 : decode cX9_back 11 = .ok (.getfield 10, 3) := by decide +kernel
theorem dX9_back_14 : decode cX9_back 14 = .ok (.aload_n 0, 1) := by decide +kernel
theorem dX9_back_15 : decode cX9_back 15 = .ok (.getfield 16, 3) := by decide +kernel
theorem dX9_back_18 : decode cX9_back 18 = .ok (.invokevirtual 403, 3) := by decide +kernel
theorem dX9_back_21 : decode cX9_back 21 = .ok (.aload_n 0, 1) := by decide +kernel
theorem dX9_back_22 : decode cX9_back 22 = .ok (.getfield 10, 3) := by decide +kernel
theorem dX9_back_25 : decode cX9_back 25 = .ok (.getfield 84, 3) := by decide +kernel
theorem dX9_back_28 : decode cX9_back 28 = .ok (.ireturn, 1) := by decide +kernel
theorem dX9_count_0 : decode cX9_count 0 = .ok (.iload_n 1, 1) := by decide +kernel
theorem dX9_count_1 : decode cX9_count 1 = .ok (.tableswitch 146 0 9 #[55, 63, 71, 79, 87, 105, 113, 125, 130, 138], 55) := by decide +kernel
theorem dX9_count_56 : decode cX9_count 56 = .ok (.aload_n 0, 1) := by decide +kernel
theorem dX9_count_57 : decode cX9_count 57 = .ok (.getfield 10, 3) := by decide +kernel
theorem dX9_count_60 : decode cX9_count 60 = .ok (.getfield 84, 3) := by decide +kernel
theorem dX9_count_63 : decode cX9_count 63 = .ok (.ireturn, 1) := by decide +kernel
theorem dX9_count_64 : decode cX9_count 64 = .ok (.aload_n 0, 1) := by decide +kernel
theorem dX9_count_65 : decode cX9_count 65 = .ok (.getfield 10, 3) := by decide +kernel
theorem dX9_count_68 : decode cX9_count 68 = .ok (.getfield 147, 3) := by decide +kernel
theorem dX9_count_71 : decode cX9_count 71 = .ok (.ireturn, 1) := by decide +kernel
theorem dX9_count_72 : decode cX9_count 72 = .ok (.aload_n 0, 1) := by decide +kernel
theorem dX9_count_73 : decode cX9_count 73 = .ok (.getfield 10, 3) := by decide +kernel
theorem dX9_count_76 : decode cX9_count 76 = .ok (.getfield 300, 3) := by decide +kernel
theorem dX9_count_79 : decode cX9_count 79 = .ok (.ireturn, 1) := by decide +kernel
theorem dX9_count_80 : decode cX9_count 80 = .ok (.aload_n 0, 1) := by decide +kernel
theorem dX9_count_81 : decode cX9_count 81 = .ok (.getfield 10, 3) := by decide +kernel
theorem dX9_count_84 : decode cX9_count 84 = .ok (.getfield 233, 3) := by decide +kernel
theorem dX9_count_87 : decode cX9_count 87 = .ok (.ireturn, 1) := by decide +kernel
theorem dX9_count_88 : decode cX9_count 88 = .ok (.aload_n 0, 1) := by decide +kernel
theorem dX9_count_89 : decode cX9_count 89 = .ok (.getfield 10, 3) := by decide +kernel
theorem dX9_count_92 : decode cX9_count 92 = .ok (.iconst 0, 1) := by decide +kernel
theorem dX9_count_93 : decode cX9_count 93 = .ok (.aload_n 0, 1) := by decide +kernel
theorem dX9_count_94 : decode cX9_count 94 = .ok (.getfield 10, 3) := by decide +kernel
theorem dX9_count_97 : decode cX9_count 97 = .ok (.getfield 84, 3) := by decide +kernel
theorem dX9_count_100 : decode cX9_count 100 = .ok (.iconst 1, 1) := by decide +kernel
theorem dX9_count_101 : decode cX9_count 101 = .ok (.isub, 1) := by decide +kernel
theorem dX9_count_102 : decode cX9_count 102 = .ok (.invokevirtual 406, 3) := by decide +kernel
theorem dX9_count_105 : decode cX9_count 105 = .ok (.ireturn, 1) := by decide +kernel
theorem dX9_count_106 : decode cX9_count 106 = .ok (.aload_n 0, 1) := by decide +kernel
theorem dX9_count_107 : decode cX9_count 107 = .ok (.getfield 10, 3) := by decide +kernel
theorem dX9_count_110 : decode cX9_count 110 = .ok (.invokevirtual 408, 3) := by decide +kernel
theorem dX9_count_113 : decode cX9_count 113 = .ok (.ireturn, 1) := by decide +kernel
theorem dX9_count_114 : decode cX9_count 114 = .ok (.aload_n 0, 1) := by decide +kernel
theorem dX9_count_115 : decode cX9_count 115 = .ok (.getfield 10, 3) := by decide +kernel
theorem dX9_count_118 : decode cX9_count 118 = .ok (.aload_n 0, 1) := by decide +kernel
theorem dX9_count_119 : decode cX9_count 119 = .ok (.getfield 61, 3) := by decide +kernel
theorem dX9_count_122 : decode cX9_count 122 = .ok (.invokevirtual 245, 3) := by decide +kernel
theorem dX9_count_125 : decode cX9_count 125 = .ok (.ireturn, 1) := by decide +kernel
theorem dX9_count_126 : decode cX9_count 126 = .ok (.aload_n 0, 1) := by decide +kernel
theorem dX9_count_127 : decode cX9_count 127 = .ok (.getfield 393, 3) := by decide +kernel
theorem dX9_count_130 : decode cX9_count 130 = .ok (.ireturn, 1) := by decide +kernel
theorem dX9_count_131 : decode cX9_count 131 = .ok (.aload_n 0, 1) := by decide +kernel
theorem dX9_count_132 : decode cX9_count 132 = .ok (.getfield 44, 3) := by decide +kernel
theorem dX9_count_135 : decode cX9_count 135 = .ok (.getfield 284, 3) := by decide +kernel
theorem dX9_count_138 : decode cX9_count 138 = .ok (.ireturn, 1) := by decide +kernel
theorem dX9_count_139 : decode cX9_count 139 = .ok (.aload_n 0, 1) := by decide +kernel
theorem dX9_count_140 : decode cX9_count 140 = .ok (.getfield 10, 3) := by decide +kernel
theorem dX9_count_143 : decode cX9_count 143 = .ok (.getfield 132, 3) := by decide +kernel
theorem dX9_count_146 : decode cX9_count 146 = .ok (.ireturn, 1) := by decide +kernel
theorem dX9_count_147 : decode cX9_count 147 = .ok (.ldc 83, 2) := by decide +kernel
theorem dX9_count_149 : decode cX9_count 149 = .ok (.ireturn, 1) := by decide +kernel
theorem dX9_isWithin_0 : decode cX9_isWithin 0 = .ok (.iload_n 0, 1) := by decide +kernel
theorem dX9_isWithin_1 : decode cX9_isWithin 1 = .ok (.iload_n 1, 1) := by decide +kernel
theorem dX9_isWithin_2 : decode cX9_isWithin 2 = .ok (.if_icmp .lt 12, 3) := by decide +kernel
theorem dX9_isWithin_5 : decode cX9_isWithin 5 = .ok (.iload_n 0, 1) := by decide +kernel
theorem dX9_isWithin_6 : decode cX9_isWithin 6 = .ok (.iload_n 2, 1) := by decide +kernel
theorem dX9_isWithin_7 : decode cX9_isWithin 7 = .ok (.if_icmp .gt 7, 3) := by decide +kernel
theorem dX9_isWithin_10 : decode cX9_isWithin 10 = .ok (.iconst 1, 1) := by decide +kernel
theorem dX9_isWithin_11 : decode cX9_isWithin 11 = .ok (.goto 4, 3) := by decide +kernel
theorem dX9_isWithin_14 : decode cX9_isWithin 14 = .ok (.iconst 0, 1) := by decide +kernel
theorem dX9_isWithin_15 : decode cX9_isWithin 15 = .ok (.ireturn, 1) := by decide +kernel
theorem dX9_held_0 : decode cX9_held 0 = .ok (.iload_n 1, 1) := by decide +kernel
theorem dX9_held_1 : decode cX9_held 1 = .ok (.iload_n 2, 1) := by decide +kernel
theorem dX9_held_2 : decode cX9_held 2 = .ok (.iload_n 0, 1) := by decide +kernel
theorem dX9_held_3 : decode cX9_held 3 = .ok (.invokestatic 122, 3) := by decide +kernel
theorem dX9_held_6 : decode cX9_held 6 = .ok (.invokestatic 411, 3) := by decide +kernel
theorem dX9_held_9 : decode cX9_held 9 = .ok (.ireturn, 1) := by decide +kernel
theorem dX9_isSize_0 : decode cX9_isSize 0 = .ok (.iload_n 0, 1) := by decide +kernel
theorem dX9_isSize_1 : decode cX9_isSize 1 = .ok (.bipush 101, 2) := by decide +kernel
theorem dX9_isSize_3 : decode cX9_isSize 3 = .ok (.sipush 9999, 3) := by decide +kernel
theorem dX9_isSize_6 : decode cX9_isSize 6 = .ok (.invokestatic 79, 3) := by decide +kernel
theorem dX9_isSize_9 : decode cX9_isSize 9 = .ok (.ifCond .eq 14, 3) := by decide +kernel
theorem dX9_isSize_12 : decode cX9_isSize 12 = .ok (.iload_n 0, 1) := by decide +kernel
theorem dX9_isSize_13 : decode cX9_isSize 13 = .ok (.bipush 100, 2) := by decide +kernel
theorem dX9_isSize_15 : decode cX9_isSize 15 = .ok (.irem, 1) := by decide +kernel
theorem dX9_isSize_16 : decode cX9_isSize 16 = .ok (.ifCond .eq 7, 3) := by decide +kernel
theorem dX9_isSize_19 : decode cX9_isSize 19 = .ok (.iconst 1, 1) := by decide +kernel
theorem dX9_isSize_20 : decode cX9_isSize 20 = .ok (.goto 4, 3) := by decide +kernel
theorem dX9_isSize_23 : decode cX9_isSize 23 = .ok (.iconst 0, 1) := by decide +kernel
theorem dX9_isSize_24 : decode cX9_isSize 24 = .ok (.ireturn, 1) := by decide +kernel
theorem dX9_isKind_0 : decode cX9_isKind 0 = .ok (.iload_n 0, 1) := by decide +kernel
theorem dX9_isKind_1 : decode cX9_isKind 1 = .ok (.iconst 0, 1) := by decide +kernel
theorem dX9_isKind_2 : decode cX9_isKind 2 = .ok (.iconst 5, 1) := by decide +kernel
theorem dX9_isKind_3 : decode cX9_isKind 3 = .ok (.invokestatic 79, 3) := by decide +kernel
theorem dX9_isKind_6 : decode cX9_isKind 6 = .ok (.ireturn, 1) := by decide +kernel
theorem dX9_isSheet_0 : decode cX9_isSheet 0 = .ok (.iload_n 0, 1) := by decide +kernel
theorem dX9_isSheet_1 : decode cX9_isSheet 1 = .ok (.iconst 0, 1) := by decide +kernel
theorem dX9_isSheet_2 : decode cX9_isSheet 2 = .ok (.iconst 3, 1) := by decide +kernel
theorem dX9_isSheet_3 : decode cX9_isSheet 3 = .ok (.invokestatic 79, 3) := by decide +kernel
theorem dX9_isSheet_6 : decode cX9_isSheet 6 = .ok (.ireturn, 1) := by decide +kernel
theorem dX9_isSlot_0 : decode cX9_isSlot 0 = .ok (.iload_n 0, 1) := by decide +kernel
theorem dX9_isSlot_1 : decode cX9_isSlot 1 = .ok (.iconst 0, 1) := by decide +kernel
theorem dX9_isSlot_2 : decode cX9_isSlot 2 = .ok (.iconst 4, 1) := by decide +kernel
theorem dX9_isSlot_3 : decode cX9_isSlot 3 = .ok (.invokestatic 79, 3) := by decide +kernel
theorem dX9_isSlot_6 : decode cX9_isSlot 6 = .ok (.ireturn, 1) := by decide +kernel
theorem dX9_isUnder_0 : decode cX9_isUnder 0 = .ok (.iload_n 0, 1) := by decide +kernel
theorem dX9_isUnder_1 : decode cX9_isUnder 1 = .ok (.istore_n 2, 1) := by decide +kernel
theorem dX9_isUnder_2 : decode cX9_isUnder 2 = .ok (.iconst 0, 1) := by decide +kernel
theorem dX9_isUnder_3 : decode cX9_isUnder 3 = .ok (.istore_n 3, 1) := by decide +kernel
theorem dX9_isUnder_4 : decode cX9_isUnder 4 = .ok (.iload_n 3, 1) := by decide +kernel
theorem dX9_isUnder_5 : decode cX9_isUnder 5 = .ok (.getstatic 414, 3) := by decide +kernel
theorem dX9_isUnder_8 : decode cX9_isUnder 8 = .ok (.arraylength, 1) := by decide +kernel
theorem dX9_isUnder_9 : decode cX9_isUnder 9 = .ok (.if_icmp .ge 29, 3) := by decide +kernel
theorem dX9_isUnder_12 : decode cX9_isUnder 12 = .ok (.iload_n 2, 1) := by decide +kernel
theorem dX9_isUnder_13 : decode cX9_isUnder 13 = .ok (.invokestatic 144, 3) := by decide +kernel
theorem dX9_isUnder_16 : decode cX9_isUnder 16 = .ok (.ifCond .eq 22, 3) := by decide +kernel
theorem dX9_isUnder_19 : decode cX9_isUnder 19 = .ok (.iload_n 2, 1) := by decide +kernel
theorem dX9_isUnder_20 : decode cX9_isUnder 20 = .ok (.iload_n 1, 1) := by decide +kernel
theorem dX9_isUnder_21 : decode cX9_isUnder 21 = .ok (.if_icmp .ne 5, 3) := by decide +kernel
theorem dX9_isUnder_24 : decode cX9_isUnder 24 = .ok (.iconst 1, 1) := by decide +kernel
theorem dX9_isUnder_25 : decode cX9_isUnder 25 = .ok (.ireturn, 1) := by decide +kernel
theorem dX9_isUnder_26 : decode cX9_isUnder 26 = .ok (.getstatic 414, 3) := by decide +kernel
theorem dX9_isUnder_29 : decode cX9_isUnder 29 = .ok (.iload_n 2, 1) := by decide +kernel
theorem dX9_isUnder_30 : decode cX9_isUnder 30 = .ok (.iaload, 1) := by decide +kernel
theorem dX9_isUnder_31 : decode cX9_isUnder 31 = .ok (.istore_n 2, 1) := by decide +kernel
theorem dX9_isUnder_32 : decode cX9_isUnder 32 = .ok (.iinc 3 1, 3) := by decide +kernel
theorem dX9_isUnder_35 : decode cX9_isUnder 35 = .ok (.goto (-31), 3) := by decide +kernel
theorem dX9_isUnder_38 : decode cX9_isUnder 38 = .ok (.iconst 0, 1) := by decide +kernel
theorem dX9_isUnder_39 : decode cX9_isUnder 39 = .ok (.ireturn, 1) := by decide +kernel
