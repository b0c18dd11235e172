theorem dX11_init_0 : decode cX11_init 0 = .ok (.aload_n 0, 1) := by decide +kernel
theorem dX11_init_1 : decode cX11_init 1 = .ok (.invokespecial 3, 3) := by decide +kernel
theorem dX11_init_4 : decode cX11_init 4 = .ok (.aload_n 0, 1) := by decide +kernel
theorem dX11_init_5 : decode cX11_init 5 = .ok (.new 9, 3) := by decide +kernel
theorem dX11_init_8 : decode cX11_init 8 = .ok (.dup, 1) := by decide +kernel
theorem dX11_init_9 : decode cX11_init 9 = .ok (.invokespecial 11, 3) := by decide +kernel
theorem dX11_init_12 : decode cX11_init 12 = .ok (.putfield 12, 3) := by decide +kernel
theorem dX11_init_15 : decode cX11_init 15 = .ok (.aload_n 0, 1) := by decide +kernel
theorem dX11_init_16 : decode cX11_init 16 = .ok (.new 16, 3) := by decide +kernel
theorem dX11_init_19 : decode cX11_init 19 = .ok (.dup, 1) := by decide +kernel
theorem dX11_init_20 : decode cX11_init 20 = .ok (.invokespecial 18, 3) := by decide +kernel
theorem dX11_init_23 : decode cX11_init 23 = .ok (.putfield 19, 3) := by decide +kernel
theorem dX11_init_26 : decode cX11_init 26 = .ok (.aload_n 0, 1) := by decide +kernel
theorem dX11_init_27 : decode cX11_init 27 = .ok (.iconst 2, 1) := by decide +kernel
theorem dX11_init_28 : decode cX11_init 28 = .ok (.anewarray 16, 3) := by decide +kernel
theorem dX11_init_31 : decode cX11_init 31 = .ok (.putfield 23, 3) := by decide +kernel
theorem dX11_init_34 : decode cX11_init 34 = .ok (.iconst 0, 1) := by decide +kernel
theorem dX11_init_35 : decode cX11_init 35 = .ok (.istore_n 1, 1) := by decide +kernel
theorem dX11_init_36 : decode cX11_init 36 = .ok (.iload_n 1, 1) := by decide +kernel
theorem dX11_init_37 : decode cX11_init 37 = .ok (.iconst 2, 1) := by decide +kernel
theorem dX11_init_38 : decode cX11_init 38 = .ok (.if_icmp .ge 22, 3) := by decide +kernel
theorem dX11_init_41 : decode cX11_init 41 = .ok (.aload_n 0, 1) := by decide +kernel
theorem dX11_init_42 : decode cX11_init 42 = .ok (.getfield 23, 3) := by decide +kernel
theorem dX11_init_45 : decode cX11_init 45 = .ok (.iload_n 1, 1) := by decide +kernel
theorem dX11_init_46 : decode cX11_init 46 = .ok (.new 16, 3) := by decide +kernel
theorem dX11_init_49 : decode cX11_init 49 = .ok (.dup, 1) := by decide +kernel
theorem dX11_init_50 : decode cX11_init 50 = .ok (.invokespecial 18, 3) := by decide +kernel
theorem dX11_init_53 : decode cX11_init 53 = .ok (.aastore, 1) := by decide +kernel
theorem dX11_init_54 : decode cX11_init 54 = .ok (.iinc 1 1, 3) := by decide +kernel
theorem dX11_init_57 : decode cX11_init 57 = .ok (.goto (-21), 3) := by decide +kernel
theorem dX11_init_60 : decode cX11_init 60 = .ok (.aload_n 0, 1) := by decide +kernel
theorem dX11_init_61 : decode cX11_init 61 = .ok (.new 27, 3) := by decide +kernel
theorem dX11_init_64 : decode cX11_init 64 = .ok (.dup, 1) := by decide +kernel
theorem dX11_init_65 : decode cX11_init 65 = .ok (.invokespecial 29, 3) := by decide +kernel
theorem dX11_init_68 : decode cX11_init 68 = .ok (.putfield 30, 3) := by decide +kernel
theorem dX11_init_71 : decode cX11_init 71 = .ok (.aload_n 0, 1) := by decide +kernel
theorem dX11_init_72 : decode cX11_init 72 = .ok (.new 34, 3) := by decide +kernel
theorem dX11_init_75 : decode cX11_init 75 = .ok (.dup, 1) := by decide +kernel
theorem dX11_init_76 : decode cX11_init 76 = .ok (.invokespecial 36, 3) := by decide +kernel
theorem dX11_init_79 : decode cX11_init 79 = .ok (.putfield 37, 3) := by decide +kernel
theorem dX11_init_82 : decode cX11_init 82 = .ok (.aload_n 0, 1) := by decide +kernel
theorem dX11_init_83 : decode cX11_init 83 = .ok (.new 41, 3) := by decide +kernel
theorem dX11_init_86 : decode cX11_init 86 = .ok (.dup, 1) := by decide +kernel
theorem dX11_init_87 : decode cX11_init 87 = .ok (.invokespecial 43, 3) := by decide +kernel
theorem dX11_init_90 : decode cX11_init 90 = .ok (.putfield 44, 3) := by decide +kernel
theorem dX11_init_93 : decode cX11_init 93 = .ok (.aload_n 0, 1) := by decide +kernel
theorem dX11_init_94 : decode cX11_init 94 = .ok (.new 48, 3) := by decide +kernel
theorem dX11_init_97 : decode cX11_init 97 = .ok (.dup, 1) := by decide +kernel
theorem dX11_init_98 : decode cX11_init 98 = .ok (.invokespecial 50, 3) := by decide +kernel
theorem dX11_init_101 : decode cX11_init 101 = .ok (.putfield 51, 3) := by decide +kernel
theorem dX11_init_104 : decode cX11_init 104 = .ok (.aload_n 0, 1) := by decide +kernel
theorem dX11_init_105 : decode cX11_init 105 = .ok (.new 55, 3) := by decide +kernel
theorem dX11_init_108 : decode cX11_init 108 = .ok (.dup, 1) := by decide +kernel
theorem dX11_init_109 : decode cX11_init 109 = .ok (.invokespecial 57, 3) := by decide +kernel
theorem dX11_init_112 : decode cX11_init 112 = .ok (.putfield 58, 3) := by decide +kernel
theorem dX11_init_115 : decode cX11_init 115 = .ok (.return_, 1) := by decide +kernel
theorem dX11_say_0 : decode cX11_say 0 = .ok (.iload_n 1, 1) := by decide +kernel
theorem dX11_say_1 : decode cX11_say 1 = .ok (.bipush 33, 2) := by decide +kernel
theorem dX11_say_3 : decode cX11_say 3 = .ok (.if_icmp .lt 9, 3) := by decide +kernel
theorem dX11_say_6 : decode cX11_say 6 = .ok (.iload_n 1, 1) := by decide +kernel
theorem dX11_say_7 : decode cX11_say 7 = .ok (.bipush 126, 2) := by decide +kernel
theorem dX11_say_9 : decode cX11_say 9 = .ok (.if_icmp .le 6, 3) := by decide +kernel
theorem dX11_say_12 : decode cX11_say 12 = .ok (.bipush (-2), 2) := by decide +kernel
theorem dX11_say_14 : decode cX11_say 14 = .ok (.ireturn, 1) := by decide +kernel
theorem dX11_say_15 : decode cX11_say 15 = .ok (.aload_n 0, 1) := by decide +kernel
theorem dX11_say_16 : decode cX11_say 16 = .ok (.getfield 12, 3) := by decide +kernel
theorem dX11_say_19 : decode cX11_say 19 = .ok (.iload_n 1, 1) := by decide +kernel
theorem dX11_say_20 : decode cX11_say 20 = .ok (.invokevirtual 62, 3) := by decide +kernel
theorem dX11_say_23 : decode cX11_say 23 = .ok (.ifCond .eq 13, 3) := by decide +kernel
theorem dX11_say_26 : decode cX11_say 26 = .ok (.aload_n 0, 1) := by decide +kernel
theorem dX11_say_27 : decode cX11_say 27 = .ok (.getfield 12, 3) := by decide +kernel
theorem dX11_say_30 : decode cX11_say 30 = .ok (.getfield 66, 3) := by decide +kernel
theorem dX11_say_33 : decode cX11_say 33 = .ok (.goto 5, 3) := by decide +kernel
theorem dX11_say_36 : decode cX11_say 36 = .ok (.bipush (-4), 2) := by decide +kernel
theorem dX11_say_38 : decode cX11_say 38 = .ok (.ireturn, 1) := by decide +kernel
theorem dX11_wipe_0 : decode cX11_wipe 0 = .ok (.aload_n 0, 1) := by decide +kernel
theorem dX11_wipe_1 : decode cX11_wipe 1 = .ok (.getfield 12, 3) := by decide +kernel
theorem dX11_wipe_4 : decode cX11_wipe 4 = .ok (.getfield 66, 3) := by decide +kernel
theorem dX11_wipe_7 : decode cX11_wipe 7 = .ok (.istore_n 1, 1) := by decide +kernel
theorem dX11_wipe_8 : decode cX11_wipe 8 = .ok (.aload_n 0, 1) := by decide +kernel
theorem dX11_wipe_9 : decode cX11_wipe 9 = .ok (.getfield 12, 3) := by decide +kernel
theorem dX11_wipe_12 : decode cX11_wipe 12 = .ok (.iconst 0, 1) := by decide +kernel
theorem dX11_wipe_13 : decode cX11_wipe 13 = .ok (.putfield 66, 3) := by decide +kernel
theorem dX11_wipe_16 : decode cX11_wipe 16 = .ok (.iload_n 1, 1) := by decide +kernel
theorem dX11_wipe_17 : decode cX11_wipe 17 = .ok (.ireturn, 1) := by decide +kernel
theorem dX11_fault_0 : decode cX11_fault 0 = .ok (.aload_n 0, 1) := by decide +kernel
theorem dX11_fault_1 : decode cX11_fault 1 = .ok (.getfield 12, 3) := by decide +kernel
theorem dX11_fault_4 : decode cX11_fault 4 = .ok (.invokevirtual 70, 3) := by decide +kernel
theorem dX11_fault_7 : decode cX11_fault 7 = .ok (.ireturn, 1) := by decide +kernel
theorem dX11_roll_0 : decode cX11_roll 0 = .ok (.aload_n 0, 1) := by decide +kernel
theorem dX11_roll_1 : decode cX11_roll 1 = .ok (.getfield 12, 3) := by decide +kernel
theorem dX11_roll_4 : decode cX11_roll 4 = .ok (.invokevirtual 70, 3) := by decide +kernel
theorem dX11_roll_7 : decode cX11_roll 7 = .ok (.bipush (-6), 2) := by decide +kernel
theorem dX11_roll_9 : decode cX11_roll 9 = .ok (.if_icmp .eq 6, 3) := by decide +kernel
theorem dX11_roll_12 : decode cX11_roll 12 = .ok (.bipush (-5), 2) := by decide +kernel
theorem dX11_roll_14 : decode cX11_roll 14 = .ok (.ireturn, 1) := by decide +kernel
theorem dX11_roll_15 : decode cX11_roll 15 = .ok (.aload_n 0, 1) := by decide +kernel
theorem dX11_roll_16 : decode cX11_roll 16 = .ok (.getfield 19, 3) := by decide +kernel
theorem dX11_roll_19 : decode cX11_roll 19 = .ok (.getfield 74, 3) := by decide +kernel
theorem dX11_roll_22 : decode cX11_roll 22 = .ok (.aload_n 0, 1) := by decide +kernel
theorem dX11_roll_23 : decode cX11_roll 23 = .ok (.getfield 12, 3) := by decide +kernel
theorem dX11_roll_26 : decode cX11_roll 26 = .ok (.getfield 78, 3) := by decide +kernel
theorem dX11_roll_29 : decode cX11_roll 29 = .ok (.invokevirtual 81, 3) := by decide +kernel
theorem dX11_roll_32 : decode cX11_roll 32 = .ok (.aload_n 0, 1) := by decide +kernel
theorem dX11_roll_33 : decode cX11_roll 33 = .ok (.getfield 19, 3) := by decide +kernel
theorem dX11_roll_36 : decode cX11_roll 36 = .ok (.getfield 87, 3) := by decide +kernel
theorem dX11_roll_39 : decode cX11_roll 39 = .ok (.iconst 0, 1) := by decide +kernel
theorem dX11_roll_40 : decode cX11_roll 40 = .ok (.putfield 91, 3) := by decide +kernel
theorem dX11_roll_43 : decode cX11_roll 43 = .ok (.aload_n 0, 1) := by decide +kernel
theorem dX11_roll_44 : decode cX11_roll 44 = .ok (.getfield 12, 3) := by decide +kernel
theorem dX11_roll_47 : decode cX11_roll 47 = .ok (.iconst 0, 1) := by decide +kernel
theorem dX11_roll_48 : decode cX11_roll 48 = .ok (.putfield 66, 3) := by decide +kernel
theorem dX11_roll_51 : decode cX11_roll 51 = .ok (.aload_n 0, 1) := by decide +kernel
theorem dX11_roll_52 : decode cX11_roll 52 = .ok (.invokevirtual 94, 3) := by decide +kernel
theorem dX11_roll_55 : decode cX11_roll 55 = .ok (.aload_n 0, 1) := by decide +kernel
theorem dX11_roll_56 : decode cX11_roll 56 = .ok (.getfield 19, 3) := by decide +kernel
theorem dX11_roll_59 : decode cX11_roll 59 = .ok (.getfield 74, 3) := by decide +kernel
theorem dX11_roll_62 : decode cX11_roll 62 = .ok (.getfield 97, 3) := by decide +kernel
theorem dX11_roll_65 : decode cX11_roll 65 = .ok (.ireturn, 1) := by decide +kernel
theorem dX11_dog_0 : decode cX11_dog 0 = .ok (.aload_n 0, 1) := by decide +kernel
theorem dX11_dog_1 : decode cX11_dog 1 = .ok (.getfield 19, 3) := by decide +kernel
theorem dX11_dog_4 : decode cX11_dog 4 = .ok (.getfield 74, 3) := by decide +kernel
theorem dX11_dog_7 : decode cX11_dog 7 = .ok (.astore_n 3, 1) := by decide +kernel
theorem dX11_dog_8 : decode cX11_dog 8 = .ok (.aload_n 3, 1) := by decide +kernel
theorem dX11_dog_9 : decode cX11_dog 9 = .ok (.iload_n 1, 1) := by decide +kernel
theorem dX11_dog_10 : decode cX11_dog 10 = .ok (.invokevirtual 100, 3) := by decide +kernel
theorem dX11_dog_13 : decode cX11_dog 13 = .ok (.ifCond .ne 5, 3) := by decide +kernel
theorem dX11_dog_16 : decode cX11_dog 16 = .ok (.iconst (-1), 1) := by decide +kernel
theorem dX11_dog_17 : decode cX11_dog 17 = .ok (.ireturn, 1) := by decide +kernel
theorem dX11_dog_18 : decode cX11_dog 18 = .ok (.iload_n 2, 1) := by decide +kernel
theorem dX11_dog_19 : decode cX11_dog 19 = .ok (.tableswitch 62 0 2 #[25, 32, 55], 25) := by decide +kernel
theorem dX11_dog_44 : decode cX11_dog 44 = .ok (.aload_n 3, 1) := by decide +kernel
theorem dX11_dog_45 : decode cX11_dog 45 = .ok (.getfield 103, 3) := by decide +kernel
theorem dX11_dog_48 : decode cX11_dog 48 = .ok (.iload_n 1, 1) := by decide +kernel
theorem dX11_dog_49 : decode cX11_dog 49 = .ok (.iaload, 1) := by decide +kernel
theorem dX11_dog_50 : decode cX11_dog 50 = .ok (.ireturn, 1) := by decide +kernel
theorem dX11_dog_51 : decode cX11_dog 51 = .ok (.aload_n 3, 1) := by decide +kernel
theorem dX11_dog_52 : decode cX11_dog 52 = .ok (.iload_n 1, 1) := by decide +kernel
theorem dX11_dog_53 : decode cX11_dog 53 = .ok (.invokevirtual 107, 3) := by decide +kernel
theorem dX11_dog_56 : decode cX11_dog 56 = .ok (.ifCond .eq 15, 3) := by decide +kernel
theorem dX11_dog_59 : decode cX11_dog 59 = .ok (.aload_n 3, 1) := by decide +kernel
theorem dX11_dog_60 : decode cX11_dog 60 = .ok (.getfield 110, 3) := by decide +kernel
theorem dX11_dog_63 : decode cX11_dog 63 = .ok (.iload_n 1, 1) := by decide +kernel
theorem dX11_dog_64 : decode cX11_dog 64 = .ok (.iaload, 1) := by decide +kernel
theorem dX11_dog_65 : decode cX11_dog 65 = .ok (.bipush 9, 2) := by decide +kernel
theorem dX11_dog_67 : decode cX11_dog 67 = .ok (.iadd, 1) := by decide +kernel
theorem dX11_dog_68 : decode cX11_dog 68 = .ok (.goto 5, 3) := by decide +kernel
theorem dX11_dog_71 : decode cX11_dog 71 = .ok (.bipush (-6), 2) := by decide +kernel
theorem dX11_dog_73 : decode cX11_dog 73 = .ok (.ireturn, 1) := by decide +kernel
theorem dX11_dog_74 : decode cX11_dog 74 = .ok (.aload_n 3, 1) := by decide +kernel
theorem dX11_dog_75 : decode cX11_dog 75 = .ok (.getfield 113, 3) := by decide +kernel
theorem dX11_dog_78 : decode cX11_dog 78 = .ok (.iload_n 1, 1) := by decide +kernel
theorem dX11_dog_79 : decode cX11_dog 79 = .ok (.iaload, 1) := by decide +kernel
theorem dX11_dog_80 : decode cX11_dog 80 = .ok (.ireturn, 1) := by decide +kernel
theorem dX11_dog_81 : decode cX11_dog 81 = .ok (.bipush (-2), 2) := by decide +kernel
theorem dX11_dog_83 : decode cX11_dog 83 = .ok (.ireturn, 1) := by decide +kernel
theorem dX11_heir_0 : decode cX11_heir 0 = .ok (.aload_n 0, 1) := by decide +kernel
theorem dX11_heir_1 : decode cX11_heir 1 = .ok (.getfield 19, 3) := by decide +kernel
theorem dX11_heir_4 : decode cX11_heir 4 = .ok (.getfield 74, 3) := by decide +kernel
theorem dX11_heir_7 : decode cX11_heir 7 = .ok (.astore_n 3, 1) := by decide +kernel
theorem dX11_heir_8 : decode cX11_heir 8 = .ok (.aload_n 3, 1) := by decide +kernel
theorem dX11_heir_9 : decode cX11_heir 9 = .ok (.iload_n 1, 1) := by decide +kernel
theorem dX11_heir_10 : decode cX11_heir 10 = .ok (.invokevirtual 100, 3) := by decide +kernel
theorem dX11_heir_13 : decode cX11_heir 13 = .ok (.ifCond .eq 21, 3) := by decide +kernel
theorem dX11_heir_16 : decode cX11_heir 16 = .ok (.iload_n 1, 1) := by decide +kernel
theorem dX11_heir_17 : decode cX11_heir 17 = .ok (.iload_n 2, 1) := by decide +kernel
theorem dX11_heir_18 : decode cX11_heir 18 = .ok (.if_icmp .eq 16, 3) := by decide +kernel
theorem dX11_heir_21 : decode cX11_heir 21 = .ok (.iload_n 2, 1) := by decide +kernel
theorem dX11_heir_22 : decode cX11_heir 22 = .ok (.iconst (-1), 1) := by decide +kernel
theorem dX11_heir_23 : decode cX11_heir 23 = .ok (.if_icmp .eq 13, 3) := by decide +kernel
theorem dX11_heir_26 : decode cX11_heir 26 = .ok (.aload_n 3, 1) := by decide +kernel
theorem dX11_heir_27 : decode cX11_heir 27 = .ok (.iload_n 2, 1) := by decide +kernel
theorem dX11_heir_28 : decode cX11_heir 28 = .ok (.invokevirtual 100, 3) := by decide +kernel
theorem dX11_heir_31 : decode cX11_heir 31 = .ok (.ifCond .ne 5, 3) := by decide +kernel
theorem dX11_heir_34 : decode cX11_heir 34 = .ok (.iconst (-1), 1) := by decide +kernel
theorem dX11_heir_35 : decode cX11_heir 35 = .ok (.ireturn, 1) := by decide +kernel
theorem dX11_heir_36 : decode cX11_heir 36 = .ok (.aload_n 3, 1) := by decide +kernel
theorem dX11_heir_37 : decode cX11_heir 37 = .ok (.getfield 116, 3) := by decide +kernel
theorem dX11_heir_40 : decode cX11_heir 40 = .ok (.iload_n 1, 1) := by decide +kernel
theorem dX11_heir_41 : decode cX11_heir 41 = .ok (.iaload, 1) := by decide +kernel
theorem dX11_heir_42 : decode cX11_heir 42 = .ok (.istore 4, 2) := by decide +kernel
theorem dX11_heir_44 : decode cX11_heir 44 = .ok (.aload_n 3, 1) := by decide +kernel
theorem dX11_heir_45 : decode cX11_heir 45 = .ok (.getfield 116, 3) := by decide +kernel
theorem dX11_heir_48 : decode cX11_heir 48 = .ok (.iload_n 1, 1) := by decide +kernel
theorem dX11_heir_49 : decode cX11_heir 49 = .ok (.iload_n 2, 1) := by decide +kernel
theorem dX11_heir_50 : decode cX11_heir 50 = .ok (.iastore, 1) := by decide +kernel
theorem dX11_heir_51 : decode cX11_heir 51 = .ok (.iload 4, 2) := by decide +kernel
theorem dX11_heir_53 : decode cX11_heir 53 = .ok (.invokestatic 119, 3) := by decide +kernel
theorem dX11_heir_56 : decode cX11_heir 56 = .ok (.ireturn, 1) := by decide +kernel
theorem dX11_dies_0 : decode cX11_dies 0 = .ok (.aload_n 0, 1) := by decide +kernel
theorem dX11_dies_1 : decode cX11_dies 1 = .ok (.getfield 19, 3) := by decide +kernel
theorem dX11_dies_4 : decode cX11_dies 4 = .ok (.getfield 74, 3) := by decide +kernel
theorem dX11_dies_7 : decode cX11_dies 7 = .ok (.astore_n 2, 1) := by decide +kernel
theorem dX11_dies_8 : decode cX11_dies 8 = .ok (.aload_n 2, 1) := by decide +kernel
theorem dX11_dies_9 : decode cX11_dies 9 = .ok (.iload_n 1, 1) := by decide +kernel
theorem dX11_dies_10 : decode cX11_dies 10 = .ok (.invokevirtual 100, 3) := by decide +kernel
theorem dX11_dies_13 : decode cX11_dies 13 = .ok (.ifCond .ne 5, 3) := by decide +kernel
theorem dX11_dies_16 : decode cX11_dies 16 = .ok (.iconst (-1), 1) := by decide +kernel
theorem dX11_dies_17 : decode cX11_dies 17 = .ok (.ireturn, 1) := by decide +kernel
theorem dX11_dies_18 : decode cX11_dies 18 = .ok (.aload_n 2, 1) := by decide +kernel
theorem dX11_dies_19 : decode cX11_dies 19 = .ok (.iload_n 1, 1) := by decide +kernel
theorem dX11_dies_20 : decode cX11_dies 20 = .ok (.invokevirtual 123, 3) := by decide +kernel
theorem dX11_dies_23 : decode cX11_dies 23 = .ok (.ifCond .eq 6, 3) := by decide +kernel
theorem dX11_dies_26 : decode cX11_dies 26 = .ok (.bipush (-3), 2) := by decide +kernel
theorem dX11_dies_28 : decode cX11_dies 28 = .ok (.ireturn, 1) := by decide +kernel
theorem dX11_dies_29 : decode cX11_dies 29 = .ok (.aload_n 0, 1) := by decide +kernel
theorem dX11_dies_30 : decode cX11_dies 30 = .ok (.invokevirtual 94, 3) := by decide +kernel
theorem dX11_dies_33 : decode cX11_dies 33 = .ok (.aload_n 2, 1) := by decide +kernel
theorem dX11_dies_34 : decode cX11_dies 34 = .ok (.iload_n 1, 1) := by decide +kernel
theorem dX11_dies_35 : decode cX11_dies 35 = .ok (.invokevirtual 126, 3) := by decide +kernel
theorem dX11_dies_38 : decode cX11_dies 38 = .ok (.ireturn, 1) := by decide +kernel
theorem dX11_goes_0 : decode cX11_goes 0 = .ok (.aload_n 0, 1) := by decide +kernel
theorem dX11_goes_1 : decode cX11_goes 1 = .ok (.getfield 19, 3) := by decide +kernel
theorem dX11_goes_4 : decode cX11_goes 4 = .ok (.getfield 74, 3) := by decide +kernel
theorem dX11_goes_7 : decode cX11_goes 7 = .ok (.iload_n 3, 1) := by decide +kernel
theorem dX11_goes_8 : decode cX11_goes 8 = .ok (.invokevirtual 100, 3) := by decide +kernel
theorem dX11_goes_11 : decode cX11_goes 11 = .ok (.ifCond .ne 5, 3) := by decide +kernel
theorem dX11_goes_14 : decode cX11_goes 14 = .ok (.iconst (-1), 1) := by decide +kernel
theorem dX11_goes_15 : decode cX11_goes 15 = .ok (.ireturn, 1) := by decide +kernel
theorem dX11_goes_16 : decode cX11_goes 16 = .ok (.iload_n 1, 1) := by decide +kernel
theorem dX11_goes_17 : decode cX11_goes 17 = .ok (.iload_n 2, 1) := by decide +kernel
theorem dX11_goes_18 : decode cX11_goes 18 = .ok (.invokestatic 129, 3) := by decide +kernel
theorem dX11_goes_21 : decode cX11_goes 21 = .ok (.ifCond .ne 6, 3) := by decide +kernel
theorem dX11_goes_24 : decode cX11_goes 24 = .ok (.bipush (-2), 2) := by decide +kernel
theorem dX11_goes_26 : decode cX11_goes 26 = .ok (.ireturn, 1) := by decide +kernel
theorem dX11_goes_27 : decode cX11_goes 27 = .ok (.aload_n 0, 1) := by decide +kernel
theorem dX11_goes_28 : decode cX11_goes 28 = .ok (.getfield 30, 3) := by decide +kernel
theorem dX11_goes_31 : decode cX11_goes 31 = .ok (.aload_n 0, 1) := by decide +kernel
theorem dX11_goes_32 : decode cX11_goes 32 = .ok (.getfield 19, 3) := by decide +kernel
theorem dX11_goes_35 : decode cX11_goes 35 = .ok (.getfield 74, 3) := by decide +kernel
theorem dX11_goes_38 : decode cX11_goes 38 = .ok (.iload_n 1, 1) := by decide +kernel
theorem dX11_goes_39 : decode cX11_goes 39 = .ok (.iload_n 2, 1) := by decide +kernel
theorem dX11_goes_40 : decode cX11_goes 40 = .ok (.isub, 1) := by decide +kernel
theorem dX11_goes_41 : decode cX11_goes 41 = .ok (.iconst 0, 1) := by decide +kernel
theorem dX11_goes_42 : decode cX11_goes 42 = .ok (.iconst 0, 1) := by decide +kernel
theorem dX11_goes_43 : decode cX11_goes 43 = .ok (.invokevirtual 133, 3) := by decide +kernel
theorem dX11_goes_46 : decode cX11_goes 46 = .ok (.aload_n 0, 1) := by decide +kernel
theorem dX11_goes_47 : decode cX11_goes 47 = .ok (.getfield 30, 3) := by decide +kernel
theorem dX11_goes_50 : decode cX11_goes 50 = .ok (.iload_n 3, 1) := by decide +kernel
theorem dX11_goes_51 : decode cX11_goes 51 = .ok (.invokevirtual 137, 3) := by decide +kernel
theorem dX11_goes_54 : decode cX11_goes 54 = .ok (.ireturn, 1) := by decide +kernel
theorem dX11_vote_0 : decode cX11_vote 0 = .ok (.iload_n 1, 1) := by decide +kernel
theorem dX11_vote_1 : decode cX11_vote 1 = .ok (.iload_n 2, 1) := by decide +kernel
theorem dX11_vote_2 : decode cX11_vote 2 = .ok (.invokestatic 129, 3) := by decide +kernel
theorem dX11_vote_5 : decode cX11_vote 5 = .ok (.ifCond .eq 11, 3) := by decide +kernel
theorem dX11_vote_8 : decode cX11_vote 8 = .ok (.iload_n 3, 1) := by decide +kernel
theorem dX11_vote_9 : decode cX11_vote 9 = .ok (.iconst 2, 1) := by decide +kernel
theorem dX11_vote_10 : decode cX11_vote 10 = .ok (.invokestatic 140, 3) := by decide +kernel
theorem dX11_vote_13 : decode cX11_vote 13 = .ok (.ifCond .ne 6, 3) := by decide +kernel
theorem dX11_vote_16 : decode cX11_vote 16 = .ok (.bipush (-2), 2) := by decide +kernel
theorem dX11_vote_18 : decode cX11_vote 18 = .ok (.ireturn, 1) := by decide +kernel
theorem dX11_vote_19 : decode cX11_vote 19 = .ok (.aload_n 0, 1) := by decide +kernel
theorem dX11_vote_20 : decode cX11_vote 20 = .ok (.getfield 30, 3) := by decide +kernel
theorem dX11_vote_23 : decode cX11_vote 23 = .ok (.aload_n 0, 1) := by decide +kernel
theorem dX11_vote_24 : decode cX11_vote 24 = .ok (.getfield 19, 3) := by decide +kernel
theorem dX11_vote_27 : decode cX11_vote 27 = .ok (.getfield 74, 3) := by decide +kernel
theorem dX11_vote_30 : decode cX11_vote 30 = .ok (.iload_n 1, 1) := by decide +kernel
theorem dX11_vote_31 : decode cX11_vote 31 = .ok (.iload_n 2, 1) := by decide +kernel
theorem dX11_vote_32 : decode cX11_vote 32 = .ok (.isub, 1) := by decide +kernel
theorem dX11_vote_33 : decode cX11_vote 33 = .ok (.iconst 0, 1) := by decide +kernel
theorem dX11_vote_34 : decode cX11_vote 34 = .ok (.iconst 0, 1) := by decide +kernel
theorem dX11_vote_35 : decode cX11_vote 35 = .ok (.invokevirtual 133, 3) := by decide +kernel
theorem dX11_vote_38 : decode cX11_vote 38 = .ok (.iload_n 3, 1) := by decide +kernel
theorem dX11_vote_39 : decode cX11_vote 39 = .ok (.lookupswitch 41 #[(0, 25), (1, 33)], 25) := by decide +kernel
theorem dX11_vote_64 : decode cX11_vote 64 = .ok (.aload_n 0, 1) := by decide +kernel
theorem dX11_vote_65 : decode cX11_vote 65 = .ok (.getfield 30, 3) := by decide +kernel
theorem dX11_vote_68 : decode cX11_vote 68 = .ok (.getfield 143, 3) := by decide +kernel
theorem dX11_vote_71 : decode cX11_vote 71 = .ok (.ireturn, 1) := by decide +kernel
theorem dX11_vote_72 : decode cX11_vote 72 = .ok (.aload_n 0, 1) := by decide +kernel
theorem dX11_vote_73 : decode cX11_vote 73 = .ok (.getfield 30, 3) := by decide +kernel
theorem dX11_vote_76 : decode cX11_vote 76 = .ok (.getfield 146, 3) := by decide +kernel
theorem dX11_vote_79 : decode cX11_vote 79 = .ok (.ireturn, 1) := by decide +kernel
theorem dX11_vote_80 : decode cX11_vote 80 = .ok (.aload_n 0, 1) := by decide +kernel
theorem dX11_vote_81 : decode cX11_vote 81 = .ok (.getfield 30, 3) := by decide +kernel
theorem dX11_vote_84 : decode cX11_vote 84 = .ok (.invokevirtual 149, 3) := by decide +kernel
theorem dX11_vote_87 : decode cX11_vote 87 = .ok (.ireturn, 1) := by decide +kernel
theorem dX11_stolen_0 : decode cX11_stolen 0 = .ok (.iload_n 1, 1) := by decide +kernel
theorem dX11_stolen_1 : decode cX11_stolen 1 = .ok (.iload_n 2, 1) := by decide +kernel
theorem dX11_stolen_2 : decode cX11_stolen 2 = .ok (.invokestatic 129, 3) := by decide +kernel
theorem dX11_stolen_5 : decode cX11_stolen 5 = .ok (.ifCond .ne 6, 3) := by decide +kernel
theorem dX11_stolen_8 : decode cX11_stolen 8 = .ok (.bipush (-2), 2) := by decide +kernel
theorem dX11_stolen_10 : decode cX11_stolen 10 = .ok (.ireturn, 1) := by decide +kernel
theorem dX11_stolen_11 : decode cX11_stolen 11 = .ok (.aload_n 0, 1) := by decide +kernel
theorem dX11_stolen_12 : decode cX11_stolen 12 = .ok (.getfield 30, 3) := by decide +kernel
theorem dX11_stolen_15 : decode cX11_stolen 15 = .ok (.aload_n 0, 1) := by decide +kernel
theorem dX11_stolen_16 : decode cX11_stolen 16 = .ok (.getfield 19, 3) := by decide +kernel
theorem dX11_stolen_19 : decode cX11_stolen 19 = .ok (.getfield 74, 3) := by decide +kernel
theorem dX11_stolen_22 : decode cX11_stolen 22 = .ok (.iload_n 1, 1) := by decide +kernel
theorem dX11_stolen_23 : decode cX11_stolen 23 = .ok (.iload_n 2, 1) := by decide +kernel
theorem dX11_stolen_24 : decode cX11_stolen 24 = .ok (.isub, 1) := by decide +kernel
theorem dX11_stolen_25 : decode cX11_stolen 25 = .ok (.iconst 0, 1) := by decide +kernel
theorem dX11_stolen_26 : decode cX11_stolen 26 = .ok (.iconst 0, 1) := by decide +kernel
theorem dX11_stolen_27 : decode cX11_stolen 27 = .ok (.invokevirtual 133, 3) := by decide +kernel
theorem dX11_stolen_30 : decode cX11_stolen 30 = .ok (.aload_n 0, 1) := by decide +kernel
theorem dX11_stolen_31 : decode cX11_stolen 31 = .ok (.getfield 30, 3) := by decide +kernel
theorem dX11_stolen_34 : decode cX11_stolen 34 = .ok (.invokevirtual 149, 3) := by decide +kernel
theorem dX11_stolen_37 : decode cX11_stolen 37 = .ok (.istore_n 3, 1) := by decide +kernel
theorem dX11_stolen_38 : decode cX11_stolen 38 = .ok (.iconst 0, 1) := by decide +kernel
theorem dX11_stolen_39 : decode cX11_stolen 39 = .ok (.istore 4, 2) := by decide +kernel
theorem dX11_stolen_41 : decode cX11_stolen 41 = .ok (.iconst 0, 1) := by decide +kernel
theorem dX11_stolen_42 : decode cX11_stolen 42 = .ok (.istore 5, 2) := by decide +kernel
theorem dX11_stolen_44 : decode cX11_stolen 44 = .ok (.iload 5, 2) := by decide +kernel
theorem dX11_stolen_46 : decode cX11_stolen 46 = .ok (.aload_n 0, 1) := by decide +kernel
theorem dX11_stolen_47 : decode cX11_stolen 47 = .ok (.getfield 19, 3) := by decide +kernel
theorem dX11_stolen_50 : decode cX11_stolen 50 = .ok (.getfield 74, 3) := by decide +kernel
theorem dX11_stolen_53 : decode cX11_stolen 53 = .ok (.getfield 97, 3) := by decide +kernel
theorem dX11_stolen_56 : decode cX11_stolen 56 = .ok (.if_icmp .ge 51, 3) := by decide +kernel
theorem dX11_stolen_59 : decode cX11_stolen 59 = .ok (.aload_n 0, 1) := by decide +kernel
theorem dX11_stolen_60 : decode cX11_stolen 60 = .ok (.getfield 30, 3) := by decide +kernel
theorem dX11_stolen_63 : decode cX11_stolen 63 = .ok (.aload_n 0, 1) := by decide +kernel
theorem dX11_stolen_64 : decode cX11_stolen 64 = .ok (.getfield 19, 3) := by decide +kernel
theorem dX11_stolen_67 : decode cX11_stolen 67 = .ok (.getfield 74, 3) := by decide +kernel
theorem dX11_stolen_70 : decode cX11_stolen 70 = .ok (.iload_n 1, 1) := by decide +kernel
theorem dX11_stolen_71 : decode cX11_stolen 71 = .ok (.iload_n 2, 1) := by decide +kernel
theorem dX11_stolen_72 : decode cX11_stolen 72 = .ok (.isub, 1) := by decide +kernel
theorem dX11_stolen_73 : decode cX11_stolen 73 = .ok (.iconst 1, 1) := by decide +kernel
theorem dX11_stolen_74 : decode cX11_stolen 74 = .ok (.iload 5, 2) := by decide +kernel
theorem dX11_stolen_76 : decode cX11_stolen 76 = .ok (.ishl, 1) := by decide +kernel
theorem dX11_stolen_77 : decode cX11_stolen 77 = .ok (.iconst 0, 1) := by decide +kernel
theorem dX11_stolen_78 : decode cX11_stolen 78 = .ok (.invokevirtual 133, 3) := by decide +kernel
theorem dX11_stolen_81 : decode cX11_stolen 81 = .ok (.aload_n 0, 1) := by decide +kernel
theorem dX11_stolen_82 : decode cX11_stolen 82 = .ok (.getfield 30, 3) := by decide +kernel
theorem dX11_stolen_85 : decode cX11_stolen 85 = .ok (.invokevirtual 149, 3) := by decide +kernel
theorem dX11_stolen_88 : decode cX11_stolen 88 = .ok (.iload_n 3, 1) := by decide +kernel
theorem dX11_stolen_89 : decode cX11_stolen 89 = .ok (.if_icmp .eq 12, 3) := by decide +kernel
theorem dX11_stolen_92 : decode cX11_stolen 92 = .ok (.iload 4, 2) := by decide +kernel
theorem dX11_stolen_94 : decode cX11_stolen 94 = .ok (.iconst 1, 1) := by decide +kernel
theorem dX11_stolen_95 : decode cX11_stolen 95 = .ok (.iload 5, 2) := by decide +kernel
theorem dX11_stolen_97 : decode cX11_stolen 97 = .ok (.ishl, 1) := by decide +kernel
theorem dX11_stolen_98 : decode cX11_stolen 98 = .ok (.ior, 1) := by decide +kernel
theorem dX11_stolen_99 : decode cX11_stolen 99 = .ok (.istore 4, 2) := by decide +kernel
theorem dX11_stolen_101 : decode cX11_stolen 101 = .ok (.iinc 5 1, 3) := by decide +kernel
theorem dX11_stolen_104 : decode cX11_stolen 104 = .ok (.goto (-60), 3) := by decide +kernel
theorem dX11_stolen_107 : decode cX11_stolen 107 = .ok (.iload 4, 2) := by decide +kernel
theorem dX11_stolen_109 : decode cX11_stolen 109 = .ok (.ireturn, 1) := by decide +kernel
theorem dX11_won_0 : decode cX11_won 0 = .ok (.iload_n 1, 1) := by decide +kernel
theorem dX11_won_1 : decode cX11_won 1 = .ok (.bipush 20, 2) := by decide +kernel
theorem dX11_won_3 : decode cX11_won 3 = .ok (.invokestatic 140, 3) := by decide +kernel
theorem dX11_won_6 : decode cX11_won 6 = .ok (.ifCond .ne 6, 3) := by decide +kernel
theorem dX11_won_9 : decode cX11_won 9 = .ok (.bipush (-2), 2) := by decide +kernel
theorem dX11_won_11 : decode cX11_won 11 = .ok (.ireturn, 1) := by decide +kernel
theorem dX11_won_12 : decode cX11_won 12 = .ok (.iconst 0, 1) := by decide +kernel
theorem dX11_won_13 : decode cX11_won 13 = .ok (.istore_n 2, 1) := by decide +kernel
theorem dX11_won_14 : decode cX11_won 14 = .ok (.iload_n 2, 1) := by decide +kernel
theorem dX11_won_15 : decode cX11_won 15 = .ok (.bipush 20, 2) := by decide +kernel
theorem dX11_won_17 : decode cX11_won 17 = .ok (.if_icmp .gt 40, 3) := by decide +kernel
theorem dX11_won_20 : decode cX11_won 20 = .ok (.aload_n 0, 1) := by decide +kernel
theorem dX11_won_21 : decode cX11_won 21 = .ok (.getfield 30, 3) := by decide +kernel
theorem dX11_won_24 : decode cX11_won 24 = .ok (.aload_n 0, 1) := by decide +kernel
theorem dX11_won_25 : decode cX11_won 25 = .ok (.getfield 19, 3) := by decide +kernel
theorem dX11_won_28 : decode cX11_won 28 = .ok (.getfield 74, 3) := by decide +kernel
theorem dX11_won_31 : decode cX11_won 31 = .ok (.iload_n 2, 1) := by decide +kernel
theorem dX11_won_32 : decode cX11_won 32 = .ok (.iload_n 1, 1) := by decide +kernel
theorem dX11_won_33 : decode cX11_won 33 = .ok (.isub, 1) := by decide +kernel
theorem dX11_won_34 : decode cX11_won 34 = .ok (.iconst 0, 1) := by decide +kernel
theorem dX11_won_35 : decode cX11_won 35 = .ok (.iconst 0, 1) := by decide +kernel
theorem dX11_won_36 : decode cX11_won 36 = .ok (.invokevirtual 133, 3) := by decide +kernel
theorem dX11_won_39 : decode cX11_won 39 = .ok (.aload_n 0, 1) := by decide +kernel
theorem dX11_won_40 : decode cX11_won 40 = .ok (.getfield 30, 3) := by decide +kernel
theorem dX11_won_43 : decode cX11_won 43 = .ok (.invokevirtual 149, 3) := by decide +kernel
theorem dX11_won_46 : decode cX11_won 46 = .ok (.ifCond .ne 5, 3) := by decide +kernel
theorem dX11_won_49 : decode cX11_won 49 = .ok (.iload_n 2, 1) := by decide +kernel
theorem dX11_won_50 : decode cX11_won 50 = .ok (.ireturn, 1) := by decide +kernel
theorem dX11_won_51 : decode cX11_won 51 = .ok (.iinc 2 1, 3) := by decide +kernel
theorem dX11_won_54 : decode cX11_won 54 = .ok (.goto (-40), 3) := by decide +kernel
theorem dX11_won_57 : decode cX11_won 57 = .ok (.bipush (-6), 2) := by decide +kernel
theorem dX11_won_59 : decode cX11_won 59 = .ok (.ireturn, 1) := by decide +kernel
theorem dX11_rests_0 : decode cX11_rests 0 = .ok (.iload_n 1, 1) := by decide +kernel
theorem dX11_rests_1 : decode cX11_rests 1 = .ok (.iconst (-1), 1) := by decide +kernel
theorem dX11_rests_2 : decode cX11_rests 2 = .ok (.if_icmp .ge 6, 3) := by decide +kernel
theorem dX11_rests_5 : decode cX11_rests 5 = .ok (.bipush (-6), 2) := by decide +kernel
theorem dX11_rests_7 : decode cX11_rests 7 = .ok (.ireturn, 1) := by decide +kernel
theorem dX11_rests_8 : decode cX11_rests 8 = .ok (.aload_n 0, 1) := by decide +kernel
theorem dX11_rests_9 : decode cX11_rests 9 = .ok (.getfield 37, 3) := by decide +kernel
theorem dX11_rests_12 : decode cX11_rests 12 = .ok (.aload_n 0, 1) := by decide +kernel
theorem dX11_rests_13 : decode cX11_rests 13 = .ok (.getfield 19, 3) := by decide +kernel
theorem dX11_rests_16 : decode cX11_rests 16 = .ok (.getfield 74, 3) := by decide +kernel
theorem dX11_rests_19 : decode cX11_rests 19 = .ok (.invokevirtual 152, 3) := by decide +kernel
theorem dX11_rests_22 : decode cX11_rests 22 = .ok (.iconst 0, 1) := by decide +kernel
theorem dX11_rests_23 : decode cX11_rests 23 = .ok (.istore_n 2, 1) := by decide +kernel
theorem dX11_rests_24 : decode cX11_rests 24 = .ok (.iconst 0, 1) := by decide +kernel
theorem dX11_rests_25 : decode cX11_rests 25 = .ok (.istore_n 3, 1) := by decide +kernel
theorem dX11_rests_26 : decode cX11_rests 26 = .ok (.iload_n 3, 1) := by decide +kernel
theorem dX11_rests_27 : decode cX11_rests 27 = .ok (.bipush 100, 2) := by decide +kernel
theorem dX11_rests_29 : decode cX11_rests 29 = .ok (.if_icmp .ge 37, 3) := by decide +kernel
theorem dX11_rests_32 : decode cX11_rests 32 = .ok (.aload_n 0, 1) := by decide +kernel
theorem dX11_rests_33 : decode cX11_rests 33 = .ok (.getfield 37, 3) := by decide +kernel
theorem dX11_rests_36 : decode cX11_rests 36 = .ok (.iload_n 3, 1) := by decide +kernel
theorem dX11_rests_37 : decode cX11_rests 37 = .ok (.bipush 10, 2) := by decide +kernel
theorem dX11_rests_39 : decode cX11_rests 39 = .ok (.idiv, 1) := by decide +kernel
theorem dX11_rests_40 : decode cX11_rests 40 = .ok (.iload_n 3, 1) := by decide +kernel
theorem dX11_rests_41 : decode cX11_rests 41 = .ok (.bipush 10, 2) := by decide +kernel
theorem dX11_rests_43 : decode cX11_rests 43 = .ok (.irem, 1) := by decide +kernel
theorem dX11_rests_44 : decode cX11_rests 44 = .ok (.invokevirtual 155, 3) := by decide +kernel
theorem dX11_rests_47 : decode cX11_rests 47 = .ok (.ifCond .eq 13, 3) := by decide +kernel
theorem dX11_rests_50 : decode cX11_rests 50 = .ok (.iload_n 2, 1) := by decide +kernel
theorem dX11_rests_51 : decode cX11_rests 51 = .ok (.iload_n 1, 1) := by decide +kernel
theorem dX11_rests_52 : decode cX11_rests 52 = .ok (.if_icmp .ne 5, 3) := by decide +kernel
theorem dX11_rests_55 : decode cX11_rests 55 = .ok (.iload_n 3, 1) := by decide +kernel
theorem dX11_rests_56 : decode cX11_rests 56 = .ok (.ireturn, 1) := by decide +kernel
theorem dX11_rests_57 : decode cX11_rests 57 = .ok (.iinc 2 1, 3) := by decide +kernel
theorem dX11_rests_60 : decode cX11_rests 60 = .ok (.iinc 3 1, 3) := by decide +kernel
theorem dX11_rests_63 : decode cX11_rests 63 = .ok (.goto (-37), 3) := by decide +kernel
theorem dX11_rests_66 : decode cX11_rests 66 = .ok (.iload_n 1, 1) := by decide +kernel
theorem dX11_rests_67 : decode cX11_rests 67 = .ok (.iconst (-1), 1) := by decide +kernel
theorem dX11_rests_68 : decode cX11_rests 68 = .ok (.if_icmp .ne 7, 3) := by decide +kernel
theorem dX11_rests_71 : decode cX11_rests 71 = .ok (.iload_n 2, 1) := by decide +kernel
theorem dX11_rests_72 : decode cX11_rests 72 = .ok (.goto 5, 3) := by decide +kernel
theorem dX11_rests_75 : decode cX11_rests 75 = .ok (.bipush (-6), 2) := by decide +kernel
theorem dX11_rests_77 : decode cX11_rests 77 = .ok (.ireturn, 1) := by decide +kernel
theorem dX11_letOut_0 : decode cX11_letOut 0 = .ok (.iload_n 1, 1) := by decide +kernel
theorem dX11_letOut_1 : decode cX11_letOut 1 = .ok (.iload_n 2, 1) := by decide +kernel
theorem dX11_letOut_2 : decode cX11_letOut 2 = .ok (.invokestatic 129, 3) := by decide +kernel
theorem dX11_letOut_5 : decode cX11_letOut 5 = .ok (.ifCond .ne 6, 3) := by decide +kernel
theorem dX11_letOut_8 : decode cX11_letOut 8 = .ok (.bipush (-2), 2) := by decide +kernel
theorem dX11_letOut_10 : decode cX11_letOut 10 = .ok (.ireturn, 1) := by decide +kernel
theorem dX11_letOut_11 : decode cX11_letOut 11 = .ok (.aload_n 0, 1) := by decide +kernel
theorem dX11_letOut_12 : decode cX11_letOut 12 = .ok (.getfield 44, 3) := by decide +kernel
theorem dX11_letOut_15 : decode cX11_letOut 15 = .ok (.aload_n 0, 1) := by decide +kernel
theorem dX11_letOut_16 : decode cX11_letOut 16 = .ok (.getfield 19, 3) := by decide +kernel
theorem dX11_letOut_19 : decode cX11_letOut 19 = .ok (.getfield 74, 3) := by decide +kernel
theorem dX11_letOut_22 : decode cX11_letOut 22 = .ok (.iload_n 1, 1) := by decide +kernel
theorem dX11_letOut_23 : decode cX11_letOut 23 = .ok (.iload_n 2, 1) := by decide +kernel
theorem dX11_letOut_24 : decode cX11_letOut 24 = .ok (.isub, 1) := by decide +kernel
theorem dX11_letOut_25 : decode cX11_letOut 25 = .ok (.invokevirtual 158, 3) := by decide +kernel
theorem dX11_letOut_28 : decode cX11_letOut 28 = .ok (.iload_n 3, 1) := by decide +kernel
theorem dX11_letOut_29 : decode cX11_letOut 29 = .ok (.iconst (-1), 1) := by decide +kernel
theorem dX11_letOut_30 : decode cX11_letOut 30 = .ok (.if_icmp .ne 11, 3) := by decide +kernel
theorem dX11_letOut_33 : decode cX11_letOut 33 = .ok (.aload_n 0, 1) := by decide +kernel
theorem dX11_letOut_34 : decode cX11_letOut 34 = .ok (.getfield 44, 3) := by decide +kernel
theorem dX11_letOut_37 : decode cX11_letOut 37 = .ok (.getfield 162, 3) := by decide +kernel
theorem dX11_letOut_40 : decode cX11_letOut 40 = .ok (.ireturn, 1) := by decide +kernel
theorem dX11_letOut_41 : decode cX11_letOut 41 = .ok (.iload_n 3, 1) := by decide +kernel
theorem dX11_letOut_42 : decode cX11_letOut 42 = .ok (.ifCond .lt 29, 3) := by decide +kernel
theorem dX11_letOut_45 : decode cX11_letOut 45 = .ok (.iload_n 3, 1) := by decide +kernel
theorem dX11_letOut_46 : decode cX11_letOut 46 = .ok (.aload_n 0, 1) := by decide +kernel
theorem dX11_letOut_47 : decode cX11_letOut 47 = .ok (.getfield 19, 3) := by decide +kernel
theorem dX11_letOut_50 : decode cX11_letOut 50 = .ok (.getfield 74, 3) := by decide +kernel
theorem dX11_letOut_53 : decode cX11_letOut 53 = .ok (.getfield 97, 3) := by decide +kernel
theorem dX11_letOut_56 : decode cX11_letOut 56 = .ok (.if_icmp .ge 15, 3) := by decide +kernel
theorem dX11_letOut_59 : decode cX11_letOut 59 = .ok (.aload_n 0, 1) := by decide +kernel
theorem dX11_letOut_60 : decode cX11_letOut 60 = .ok (.getfield 44, 3) := by decide +kernel
theorem dX11_letOut_63 : decode cX11_letOut 63 = .ok (.getfield 165, 3) := by decide +kernel
theorem dX11_letOut_66 : decode cX11_letOut 66 = .ok (.iload_n 3, 1) := by decide +kernel
theorem dX11_letOut_67 : decode cX11_letOut 67 = .ok (.iaload, 1) := by decide +kernel
theorem dX11_letOut_68 : decode cX11_letOut 68 = .ok (.goto 5, 3) := by decide +kernel
theorem dX11_letOut_71 : decode cX11_letOut 71 = .ok (.bipush (-6), 2) := by decide +kernel
theorem dX11_letOut_73 : decode cX11_letOut 73 = .ok (.ireturn, 1) := by decide +kernel
theorem dX11_swings_0 : decode cX11_swings 0 = .ok (.aload_n 0, 1) := by decide +kernel
theorem dX11_swings_1 : decode cX11_swings 1 = .ok (.getfield 19, 3) := by decide +kernel
theorem dX11_swings_4 : decode cX11_swings 4 = .ok (.getfield 74, 3) := by decide +kernel
theorem dX11_swings_7 : decode cX11_swings 7 = .ok (.iload_n 1, 1) := by decide +kernel
theorem dX11_swings_8 : decode cX11_swings 8 = .ok (.invokevirtual 100, 3) := by decide +kernel
theorem dX11_swings_11 : decode cX11_swings 11 = .ok (.ifCond .eq 18, 3) := by decide +kernel
theorem dX11_swings_14 : decode cX11_swings 14 = .ok (.aload_n 0, 1) := by decide +kernel
theorem dX11_swings_15 : decode cX11_swings 15 = .ok (.getfield 19, 3) := by decide +kernel
theorem dX11_swings_18 : decode cX11_swings 18 = .ok (.getfield 74, 3) := by decide +kernel
theorem dX11_swings_21 : decode cX11_swings 21 = .ok (.iload_n 1, 1) := by decide +kernel
theorem dX11_swings_22 : decode cX11_swings 22 = .ok (.iconst 0, 1) := by decide +kernel
theorem dX11_swings_23 : decode cX11_swings 23 = .ok (.invokestatic 168, 3) := by decide +kernel
theorem dX11_swings_26 : decode cX11_swings 26 = .ok (.goto 4, 3) := by decide +kernel
theorem dX11_swings_29 : decode cX11_swings 29 = .ok (.iconst (-1), 1) := by decide +kernel
theorem dX11_swings_30 : decode cX11_swings 30 = .ok (.ireturn, 1) := by decide +kernel
theorem dX11_turn_0 : decode cX11_turn 0 = .ok (.aload_n 0, 1) := by decide +kernel
theorem dX11_turn_1 : decode cX11_turn 1 = .ok (.getfield 19, 3) := by decide +kernel
theorem dX11_turn_4 : decode cX11_turn 4 = .ok (.getfield 74, 3) := by decide +kernel
theorem dX11_turn_7 : decode cX11_turn 7 = .ok (.iload_n 1, 1) := by decide +kernel
theorem dX11_turn_8 : decode cX11_turn 8 = .ok (.invokevirtual 100, 3) := by decide +kernel
theorem dX11_turn_11 : decode cX11_turn 11 = .ok (.ifCond .ne 7, 3) := by decide +kernel
theorem dX11_turn_14 : decode cX11_turn 14 = .ok (.ldc2_w 174, 3) := by decide +kernel
theorem dX11_turn_17 : decode cX11_turn 17 = .ok (.lreturn, 1) := by decide +kernel
theorem dX11_turn_18 : decode cX11_turn 18 = .ok (.iload_n 2, 1) := by decide +kernel
theorem dX11_turn_19 : decode cX11_turn 19 = .ok (.iconst 1, 1) := by decide +kernel
theorem dX11_turn_20 : decode cX11_turn 20 = .ok (.invokestatic 140, 3) := by decide +kernel
theorem dX11_turn_23 : decode cX11_turn 23 = .ok (.ifCond .ne 7, 3) := by decide +kernel
theorem dX11_turn_26 : decode cX11_turn 26 = .ok (.ldc2_w 176, 3) := by decide +kernel
theorem dX11_turn_29 : decode cX11_turn 29 = .ok (.lreturn, 1) := by decide +kernel
theorem dX11_turn_30 : decode cX11_turn 30 = .ok (.aload_n 0, 1) := by decide +kernel
theorem dX11_turn_31 : decode cX11_turn 31 = .ok (.getfield 19, 3) := by decide +kernel
theorem dX11_turn_34 : decode cX11_turn 34 = .ok (.getfield 74, 3) := by decide +kernel
theorem dX11_turn_37 : decode cX11_turn 37 = .ok (.iload_n 1, 1) := by decide +kernel
theorem dX11_turn_38 : decode cX11_turn 38 = .ok (.iconst 1, 1) := by decide +kernel
theorem dX11_turn_39 : decode cX11_turn 39 = .ok (.invokestatic 168, 3) := by decide +kernel
theorem dX11_turn_42 : decode cX11_turn 42 = .ok (.istore_n 3, 1) := by decide +kernel
theorem dX11_turn_43 : decode cX11_turn 43 = .ok (.aload_n 0, 1) := by decide +kernel
theorem dX11_turn_44 : decode cX11_turn 44 = .ok (.getfield 19, 3) := by decide +kernel
theorem dX11_turn_47 : decode cX11_turn 47 = .ok (.getfield 74, 3) := by decide +kernel
theorem dX11_turn_50 : decode cX11_turn 50 = .ok (.invokevirtual 178, 3) := by decide +kernel
theorem dX11_turn_53 : decode cX11_turn 53 = .ok (.invokestatic 181, 3) := by decide +kernel
theorem dX11_turn_56 : decode cX11_turn 56 = .ok (.invokestatic 186, 3) := by decide +kernel
theorem dX11_turn_59 : decode cX11_turn 59 = .ok (.istore 4, 2) := by decide +kernel
theorem dX11_turn_61 : decode cX11_turn 61 = .ok (.iconst 1, 1) := by decide +kernel
theorem dX11_turn_62 : decode cX11_turn 62 = .ok (.iload 4, 2) := by decide +kernel
theorem dX11_turn_64 : decode cX11_turn 64 = .ok (.iload_n 3, 1) := by decide +kernel
theorem dX11_turn_65 : decode cX11_turn 65 = .ok (.invokestatic 189, 3) := by decide +kernel
theorem dX11_turn_68 : decode cX11_turn 68 = .ok (.invokestatic 193, 3) := by decide +kernel
theorem dX11_turn_71 : decode cX11_turn 71 = .ok (.istore 5, 2) := by decide +kernel
theorem dX11_turn_73 : decode cX11_turn 73 = .ok (.iload_n 2, 1) := by decide +kernel
theorem dX11_turn_74 : decode cX11_turn 74 = .ok (.ifCond .ne 7, 3) := by decide +kernel
theorem dX11_turn_77 : decode cX11_turn 77 = .ok (.iload_n 3, 1) := by decide +kernel
theorem dX11_turn_78 : decode cX11_turn 78 = .ok (.goto 5, 3) := by decide +kernel
theorem dX11_turn_81 : decode cX11_turn 81 = .ok (.iload 4, 2) := by decide +kernel
theorem dX11_turn_83 : decode cX11_turn 83 = .ok (.iload 5, 2) := by decide +kernel
theorem dX11_turn_85 : decode cX11_turn 85 = .ok (.idiv, 1) := by decide +kernel
theorem dX11_turn_86 : decode cX11_turn 86 = .ok (.i2l, 1) := by decide +kernel
theorem dX11_turn_87 : decode cX11_turn 87 = .ok (.lreturn, 1) := by decide +kernel
theorem dX11_counted_0 : decode cX11_counted 0 = .ok (.iload_n 1, 1) := by decide +kernel
theorem dX11_counted_1 : decode cX11_counted 1 = .ok (.iload_n 2, 1) := by decide +kernel
theorem dX11_counted_2 : decode cX11_counted 2 = .ok (.invokestatic 129, 3) := by decide +kernel
theorem dX11_counted_5 : decode cX11_counted 5 = .ok (.ifCond .eq 12, 3) := by decide +kernel
theorem dX11_counted_8 : decode cX11_counted 8 = .ok (.iload_n 3, 1) := by decide +kernel
theorem dX11_counted_9 : decode cX11_counted 9 = .ok (.bipush 63, 2) := by decide +kernel
theorem dX11_counted_11 : decode cX11_counted 11 = .ok (.invokestatic 140, 3) := by decide +kernel
theorem dX11_counted_14 : decode cX11_counted 14 = .ok (.ifCond .ne 6, 3) := by decide +kernel
theorem dX11_counted_17 : decode cX11_counted 17 = .ok (.bipush (-2), 2) := by decide +kernel
theorem dX11_counted_19 : decode cX11_counted 19 = .ok (.ireturn, 1) := by decide +kernel
theorem dX11_counted_20 : decode cX11_counted 20 = .ok (.aload_n 0, 1) := by decide +kernel
theorem dX11_counted_21 : decode cX11_counted 21 = .ok (.getfield 19, 3) := by decide +kernel
theorem dX11_counted_24 : decode cX11_counted 24 = .ok (.getfield 87, 3) := by decide +kernel
theorem dX11_counted_27 : decode cX11_counted 27 = .ok (.iload_n 1, 1) := by decide +kernel
theorem dX11_counted_28 : decode cX11_counted 28 = .ok (.iload_n 2, 1) := by decide +kernel
theorem dX11_counted_29 : decode cX11_counted 29 = .ok (.iload_n 3, 1) := by decide +kernel
theorem dX11_counted_30 : decode cX11_counted 30 = .ok (.invokevirtual 198, 3) := by decide +kernel
theorem dX11_counted_33 : decode cX11_counted 33 = .ok (.ifCond .ne 6, 3) := by decide +kernel
theorem dX11_counted_36 : decode cX11_counted 36 = .ok (.bipush (-4), 2) := by decide +kernel
theorem dX11_counted_38 : decode cX11_counted 38 = .ok (.ireturn, 1) := by decide +kernel
theorem dX11_counted_39 : decode cX11_counted 39 = .ok (.aload_n 0, 1) := by decide +kernel
theorem dX11_counted_40 : decode cX11_counted 40 = .ok (.invokevirtual 94, 3) := by decide +kernel
theorem dX11_counted_43 : decode cX11_counted 43 = .ok (.aload_n 0, 1) := by decide +kernel
theorem dX11_counted_44 : decode cX11_counted 44 = .ok (.getfield 19, 3) := by decide +kernel
theorem dX11_counted_47 : decode cX11_counted 47 = .ok (.getfield 87, 3) := by decide +kernel
theorem dX11_counted_50 : decode cX11_counted 50 = .ok (.getfield 91, 3) := by decide +kernel
theorem dX11_counted_53 : decode cX11_counted 53 = .ok (.ireturn, 1) := by decide +kernel
theorem dX11_forget_0 : decode cX11_forget 0 = .ok (.aload_n 0, 1) := by decide +kernel
theorem dX11_forget_1 : decode cX11_forget 1 = .ok (.getfield 19, 3) := by decide +kernel
theorem dX11_forget_4 : decode cX11_forget 4 = .ok (.getfield 87, 3) := by decide +kernel
theorem dX11_forget_7 : decode cX11_forget 7 = .ok (.getfield 91, 3) := by decide +kernel
theorem dX11_forget_10 : decode cX11_forget 10 = .ok (.istore_n 1, 1) := by decide +kernel
theorem dX11_forget_11 : decode cX11_forget 11 = .ok (.aload_n 0, 1) := by decide +kernel
theorem dX11_forget_12 : decode cX11_forget 12 = .ok (.getfield 19, 3) := by decide +kernel
theorem dX11_forget_15 : decode cX11_forget 15 = .ok (.getfield 87, 3) := by decide +kernel
theorem dX11_forget_18 : decode cX11_forget 18 = .ok (.iconst 0, 1) := by decide +kernel
theorem dX11_forget_19 : decode cX11_forget 19 = .ok (.putfield 91, 3) := by decide +kernel
theorem dX11_forget_22 : decode cX11_forget 22 = .ok (.aload_n 0, 1) := by decide +kernel
theorem dX11_forget_23 : decode cX11_forget 23 = .ok (.invokevirtual 94, 3) := by decide +kernel
theorem dX11_forget_26 : decode cX11_forget 26 = .ok (.iload_n 1, 1) := by decide +kernel
theorem dX11_forget_27 : decode cX11_forget 27 = .ok (.ireturn, 1) := by decide +kernel
theorem dX11_fits_0 : decode cX11_fits 0 = .ok (.aload_n 0, 1) := by decide +kernel
theorem dX11_fits_1 : decode cX11_fits 1 = .ok (.getfield 51, 3) := by decide +kernel
theorem dX11_fits_4 : decode cX11_fits 4 = .ok (.aload_n 0, 1) := by decide +kernel
theorem dX11_fits_5 : decode cX11_fits 5 = .ok (.getfield 19, 3) := by decide +kernel
theorem dX11_fits_8 : decode cX11_fits 8 = .ok (.getfield 74, 3) := by decide +kernel
theorem dX11_fits_11 : decode cX11_fits 11 = .ok (.aload_n 0, 1) := by decide +kernel
theorem dX11_fits_12 : decode cX11_fits 12 = .ok (.getfield 19, 3) := by decide +kernel
theorem dX11_fits_15 : decode cX11_fits 15 = .ok (.getfield 87, 3) := by decide +kernel
theorem dX11_fits_18 : decode cX11_fits 18 = .ok (.invokevirtual 201, 3) := by decide +kernel
theorem dX11_fits_21 : decode cX11_fits 21 = .ok (.iload_n 1, 1) := by decide +kernel
theorem dX11_fits_22 : decode cX11_fits 22 = .ok (.iconst (-1), 1) := by decide +kernel
theorem dX11_fits_23 : decode cX11_fits 23 = .ok (.if_icmp .ne 11, 3) := by decide +kernel
theorem dX11_fits_26 : decode cX11_fits 26 = .ok (.aload_n 0, 1) := by decide +kernel
theorem dX11_fits_27 : decode cX11_fits 27 = .ok (.getfield 51, 3) := by decide +kernel
theorem dX11_fits_30 : decode cX11_fits 30 = .ok (.getfield 204, 3) := by decide +kernel
theorem dX11_fits_33 : decode cX11_fits 33 = .ok (.ireturn, 1) := by decide +kernel
theorem dX11_fits_34 : decode cX11_fits 34 = .ok (.iload_n 1, 1) := by decide +kernel
theorem dX11_fits_35 : decode cX11_fits 35 = .ok (.ifCond .lt 24, 3) := by decide +kernel
theorem dX11_fits_38 : decode cX11_fits 38 = .ok (.iload_n 1, 1) := by decide +kernel
theorem dX11_fits_39 : decode cX11_fits 39 = .ok (.aload_n 0, 1) := by decide +kernel
theorem dX11_fits_40 : decode cX11_fits 40 = .ok (.getfield 51, 3) := by decide +kernel
theorem dX11_fits_43 : decode cX11_fits 43 = .ok (.getfield 207, 3) := by decide +kernel
theorem dX11_fits_46 : decode cX11_fits 46 = .ok (.if_icmp .ge 13, 3) := by decide +kernel
theorem dX11_fits_49 : decode cX11_fits 49 = .ok (.aload_n 0, 1) := by decide +kernel
theorem dX11_fits_50 : decode cX11_fits 50 = .ok (.getfield 51, 3) := by decide +kernel
theorem dX11_fits_53 : decode cX11_fits 53 = .ok (.getfield 204, 3) := by decide +kernel
theorem dX11_fits_56 : decode cX11_fits 56 = .ok (.ifCond .ne 6, 3) := by decide +kernel
theorem dX11_fits_59 : decode cX11_fits 59 = .ok (.bipush (-6), 2) := by decide +kernel
theorem dX11_fits_61 : decode cX11_fits 61 = .ok (.ireturn, 1) := by decide +kernel
theorem dX11_fits_62 : decode cX11_fits 62 = .ok (.aload_n 0, 1) := by decide +kernel
theorem dX11_fits_63 : decode cX11_fits 63 = .ok (.getfield 51, 3) := by decide +kernel
theorem dX11_fits_66 : decode cX11_fits 66 = .ok (.getfield 208, 3) := by decide +kernel
theorem dX11_fits_69 : decode cX11_fits 69 = .ok (.iload_n 1, 1) := by decide +kernel
theorem dX11_fits_70 : decode cX11_fits 70 = .ok (.iaload, 1) := by decide +kernel
theorem dX11_fits_71 : decode cX11_fits 71 = .ok (.bipush 9, 2) := by decide +kernel
theorem dX11_fits_73 : decode cX11_fits 73 = .ok (.iadd, 1) := by decide +kernel
theorem dX11_fits_74 : decode cX11_fits 74 = .ok (.ireturn, 1) := by decide +kernel
theorem dX11_liking_0 : decode cX11_liking 0 = .ok (.aload_n 0, 1) := by decide +kernel
theorem dX11_liking_1 : decode cX11_liking 1 = .ok (.getfield 19, 3) := by decide +kernel
theorem dX11_liking_4 : decode cX11_liking 4 = .ok (.getfield 74, 3) := by decide +kernel
theorem dX11_liking_7 : decode cX11_liking 7 = .ok (.iload_n 1, 1) := by decide +kernel
theorem dX11_liking_8 : decode cX11_liking 8 = .ok (.invokevirtual 100, 3) := by decide +kernel
theorem dX11_liking_11 : decode cX11_liking 11 = .ok (.ifCond .eq 17, 3) := by decide +kernel
theorem dX11_liking_14 : decode cX11_liking 14 = .ok (.aload_n 0, 1) := by decide +kernel
theorem dX11_liking_15 : decode cX11_liking 15 = .ok (.getfield 19, 3) := by decide +kernel
theorem dX11_liking_18 : decode cX11_liking 18 = .ok (.getfield 74, 3) := by decide +kernel
theorem dX11_liking_21 : decode cX11_liking 21 = .ok (.iload_n 1, 1) := by decide +kernel
theorem dX11_liking_22 : decode cX11_liking 22 = .ok (.invokevirtual 107, 3) := by decide +kernel
theorem dX11_liking_25 : decode cX11_liking 25 = .ok (.ifCond .eq 5, 3) := by decide +kernel
theorem dX11_liking_28 : decode cX11_liking 28 = .ok (.iconst (-1), 1) := by decide +kernel
theorem dX11_liking_29 : decode cX11_liking 29 = .ok (.ireturn, 1) := by decide +kernel
theorem dX11_liking_30 : decode cX11_liking 30 = .ok (.iload_n 2, 1) := by decide +kernel
theorem dX11_liking_31 : decode cX11_liking 31 = .ok (.iconst 1, 1) := by decide +kernel
theorem dX11_liking_32 : decode cX11_liking 32 = .ok (.invokestatic 140, 3) := by decide +kernel
theorem dX11_liking_35 : decode cX11_liking 35 = .ok (.ifCond .ne 6, 3) := by decide +kernel
theorem dX11_liking_38 : decode cX11_liking 38 = .ok (.bipush (-2), 2) := by decide +kernel
theorem dX11_liking_40 : decode cX11_liking 40 = .ok (.ireturn, 1) := by decide +kernel
theorem dX11_liking_41 : decode cX11_liking 41 = .ok (.aload_n 0, 1) := by decide +kernel
theorem dX11_liking_42 : decode cX11_liking 42 = .ok (.getfield 51, 3) := by decide +kernel
theorem dX11_liking_45 : decode cX11_liking 45 = .ok (.aload_n 0, 1) := by decide +kernel
theorem dX11_liking_46 : decode cX11_liking 46 = .ok (.getfield 19, 3) := by decide +kernel
theorem dX11_liking_49 : decode cX11_liking 49 = .ok (.getfield 74, 3) := by decide +kernel
theorem dX11_liking_52 : decode cX11_liking 52 = .ok (.aload_n 0, 1) := by decide +kernel
theorem dX11_liking_53 : decode cX11_liking 53 = .ok (.getfield 19, 3) := by decide +kernel
theorem dX11_liking_56 : decode cX11_liking 56 = .ok (.getfield 87, 3) := by decide +kernel
theorem dX11_liking_59 : decode cX11_liking 59 = .ok (.invokevirtual 201, 3) := by decide +kernel
theorem dX11_liking_62 : decode cX11_liking 62 = .ok (.aload_n 0, 1) := by decide +kernel
theorem dX11_liking_63 : decode cX11_liking 63 = .ok (.getfield 51, 3) := by decide +kernel
theorem dX11_liking_66 : decode cX11_liking 66 = .ok (.getfield 204, 3) := by decide +kernel
theorem dX11_liking_69 : decode cX11_liking 69 = .ok (.ifCond .ne 6, 3) := by decide +kernel
theorem dX11_liking_72 : decode cX11_liking 72 = .ok (.bipush (-3), 2) := by decide +kernel
theorem dX11_liking_74 : decode cX11_liking 74 = .ok (.ireturn, 1) := by decide +kernel
theorem dX11_liking_75 : decode cX11_liking 75 = .ok (.iload_n 2, 1) := by decide +kernel
theorem dX11_liking_76 : decode cX11_liking 76 = .ok (.ifCond .ne 15, 3) := by decide +kernel
theorem dX11_liking_79 : decode cX11_liking 79 = .ok (.aload_n 0, 1) := by decide +kernel
theorem dX11_liking_80 : decode cX11_liking 80 = .ok (.getfield 51, 3) := by decide +kernel
theorem dX11_liking_83 : decode cX11_liking 83 = .ok (.getfield 211, 3) := by decide +kernel
theorem dX11_liking_86 : decode cX11_liking 86 = .ok (.iload_n 1, 1) := by decide +kernel
theorem dX11_liking_87 : decode cX11_liking 87 = .ok (.iaload, 1) := by decide +kernel
theorem dX11_liking_88 : decode cX11_liking 88 = .ok (.goto 12, 3) := by decide +kernel
theorem dX11_liking_91 : decode cX11_liking 91 = .ok (.aload_n 0, 1) := by decide +kernel
theorem dX11_liking_92 : decode cX11_liking 92 = .ok (.getfield 51, 3) := by decide +kernel
theorem dX11_liking_95 : decode cX11_liking 95 = .ok (.getfield 214, 3) := by decide +kernel
theorem dX11_liking_98 : decode cX11_liking 98 = .ok (.iload_n 1, 1) := by decide +kernel
theorem dX11_liking_99 : decode cX11_liking 99 = .ok (.iaload, 1) := by decide +kernel
theorem dX11_liking_100 : decode cX11_liking 100 = .ok (.bipush 9, 2) := by decide +kernel
theorem dX11_liking_102 : decode cX11_liking 102 = .ok (.iadd, 1) := by decide +kernel
theorem dX11_liking_103 : decode cX11_liking 103 = .ok (.ireturn, 1) := by decide +kernel
theorem dX11_ask_0 : decode cX11_ask 0 = .ok (.iload_n 1, 1) := by decide +kernel
theorem dX11_ask_1 : decode cX11_ask 1 = .ok (.iload_n 2, 1) := by decide +kernel
theorem dX11_ask_2 : decode cX11_ask 2 = .ok (.invokestatic 129, 3) := by decide +kernel
theorem dX11_ask_5 : decode cX11_ask 5 = .ok (.ifCond .eq 12, 3) := by decide +kernel
theorem dX11_ask_8 : decode cX11_ask 8 = .ok (.iload_n 3, 1) := by decide +kernel
theorem dX11_ask_9 : decode cX11_ask 9 = .ok (.bipush 99, 2) := by decide +kernel
theorem dX11_ask_11 : decode cX11_ask 11 = .ok (.invokestatic 140, 3) := by decide +kernel
theorem dX11_ask_14 : decode cX11_ask 14 = .ok (.ifCond .ne 6, 3) := by decide +kernel
theorem dX11_ask_17 : decode cX11_ask 17 = .ok (.bipush (-2), 2) := by decide +kernel
theorem dX11_ask_19 : decode cX11_ask 19 = .ok (.ireturn, 1) := by decide +kernel
theorem dX11_ask_20 : decode cX11_ask 20 = .ok (.aload_n 0, 1) := by decide +kernel
theorem dX11_ask_21 : decode cX11_ask 21 = .ok (.getfield 19, 3) := by decide +kernel
theorem dX11_ask_24 : decode cX11_ask 24 = .ok (.getfield 217, 3) := by decide +kernel
theorem dX11_ask_27 : decode cX11_ask 27 = .ok (.iload_n 1, 1) := by decide +kernel
theorem dX11_ask_28 : decode cX11_ask 28 = .ok (.iload_n 2, 1) := by decide +kernel
theorem dX11_ask_29 : decode cX11_ask 29 = .ok (.iload_n 3, 1) := by decide +kernel
theorem dX11_ask_30 : decode cX11_ask 30 = .ok (.invokevirtual 198, 3) := by decide +kernel
theorem dX11_ask_33 : decode cX11_ask 33 = .ok (.ifCond .ne 6, 3) := by decide +kernel
theorem dX11_ask_36 : decode cX11_ask 36 = .ok (.bipush (-4), 2) := by decide +kernel
theorem dX11_ask_38 : decode cX11_ask 38 = .ok (.ireturn, 1) := by decide +kernel
theorem dX11_ask_39 : decode cX11_ask 39 = .ok (.aload_n 0, 1) := by decide +kernel
theorem dX11_ask_40 : decode cX11_ask 40 = .ok (.invokevirtual 94, 3) := by decide +kernel
theorem dX11_ask_43 : decode cX11_ask 43 = .ok (.aload_n 0, 1) := by decide +kernel
theorem dX11_ask_44 : decode cX11_ask 44 = .ok (.getfield 19, 3) := by decide +kernel
theorem dX11_ask_47 : decode cX11_ask 47 = .ok (.getfield 217, 3) := by decide +kernel
theorem dX11_ask_50 : decode cX11_ask 50 = .ok (.getfield 91, 3) := by decide +kernel
theorem dX11_ask_53 : decode cX11_ask 53 = .ok (.ireturn, 1) := by decide +kernel
theorem dX11_drop_0 : decode cX11_drop 0 = .ok (.aload_n 0, 1) := by decide +kernel
theorem dX11_drop_1 : decode cX11_drop 1 = .ok (.getfield 19, 3) := by decide +kernel
theorem dX11_drop_4 : decode cX11_drop 4 = .ok (.getfield 217, 3) := by decide +kernel
theorem dX11_drop_7 : decode cX11_drop 7 = .ok (.getfield 91, 3) := by decide +kernel
theorem dX11_drop_10 : decode cX11_drop 10 = .ok (.istore_n 1, 1) := by decide +kernel
theorem dX11_drop_11 : decode cX11_drop 11 = .ok (.aload_n 0, 1) := by decide +kernel
theorem dX11_drop_12 : decode cX11_drop 12 = .ok (.getfield 19, 3) := by decide +kernel
theorem dX11_drop_15 : decode cX11_drop 15 = .ok (.getfield 217, 3) := by decide +kernel
theorem dX11_drop_18 : decode cX11_drop 18 = .ok (.iconst 0, 1) := by decide +kernel
theorem dX11_drop_19 : decode cX11_drop 19 = .ok (.putfield 91, 3) := by decide +kernel
theorem dX11_drop_22 : decode cX11_drop 22 = .ok (.aload_n 0, 1) := by decide +kernel
theorem dX11_drop_23 : decode cX11_drop 23 = .ok (.invokevirtual 94, 3) := by decide +kernel
theorem dX11_drop_26 : decode cX11_drop 26 = .ok (.iload_n 1, 1) := by decide +kernel
theorem dX11_drop_27 : decode cX11_drop 27 = .ok (.ireturn, 1) := by decide +kernel
theorem dX11_hunger_0 : decode cX11_hunger 0 = .ok (.iload_n 1, 1) := by decide +kernel
theorem dX11_hunger_1 : decode cX11_hunger 1 = .ok (.iconst 1, 1) := by decide +kernel
theorem dX11_hunger_2 : decode cX11_hunger 2 = .ok (.if_icmp .lt 9, 3) := by decide +kernel
theorem dX11_hunger_5 : decode cX11_hunger 5 = .ok (.iload_n 1, 1) := by decide +kernel
theorem dX11_hunger_6 : decode cX11_hunger 6 = .ok (.bipush 9, 2) := by decide +kernel
theorem dX11_hunger_8 : decode cX11_hunger 8 = .ok (.if_icmp .le 6, 3) := by decide +kernel
theorem dX11_hunger_11 : decode cX11_hunger 11 = .ok (.bipush (-2), 2) := by decide +kernel
theorem dX11_hunger_13 : decode cX11_hunger 13 = .ok (.ireturn, 1) := by decide +kernel
theorem dX11_hunger_14 : decode cX11_hunger 14 = .ok (.aload_n 0, 1) := by decide +kernel
theorem dX11_hunger_15 : decode cX11_hunger 15 = .ok (.getfield 19, 3) := by decide +kernel
theorem dX11_hunger_18 : decode cX11_hunger 18 = .ok (.getfield 220, 3) := by decide +kernel
theorem dX11_hunger_21 : decode cX11_hunger 21 = .ok (.istore_n 2, 1) := by decide +kernel
theorem dX11_hunger_22 : decode cX11_hunger 22 = .ok (.aload_n 0, 1) := by decide +kernel
theorem dX11_hunger_23 : decode cX11_hunger 23 = .ok (.getfield 19, 3) := by decide +kernel
theorem dX11_hunger_26 : decode cX11_hunger 26 = .ok (.iload_n 1, 1) := by decide +kernel
theorem dX11_hunger_27 : decode cX11_hunger 27 = .ok (.putfield 220, 3) := by decide +kernel
theorem dX11_hunger_30 : decode cX11_hunger 30 = .ok (.aload_n 0, 1) := by decide +kernel
theorem dX11_hunger_31 : decode cX11_hunger 31 = .ok (.invokevirtual 94, 3) := by decide +kernel
theorem dX11_hunger_34 : decode cX11_hunger 34 = .ok (.iload_n 2, 1) := by decide +kernel
theorem dX11_hunger_35 : decode cX11_hunger 35 = .ok (.ireturn, 1) := by decide +kernel
theorem dX11_best_0 : decode cX11_best 0 = .ok (.aload_n 0, 1) := by decide +kernel
theorem dX11_best_1 : decode cX11_best 1 = .ok (.getfield 58, 3) := by decide +kernel
theorem dX11_best_4 : decode cX11_best 4 = .ok (.aload_n 0, 1) := by decide +kernel
theorem dX11_best_5 : decode cX11_best 5 = .ok (.getfield 19, 3) := by decide +kernel
theorem dX11_best_8 : decode cX11_best 8 = .ok (.invokevirtual 223, 3) := by decide +kernel
theorem dX11_best_11 : decode cX11_best 11 = .ok (.iload_n 1, 1) := by decide +kernel
theorem dX11_best_12 : decode cX11_best 12 = .ok (.iconst (-1), 1) := by decide +kernel
theorem dX11_best_13 : decode cX11_best 13 = .ok (.if_icmp .ne 11, 3) := by decide +kernel
theorem dX11_best_16 : decode cX11_best 16 = .ok (.aload_n 0, 1) := by decide +kernel
theorem dX11_best_17 : decode cX11_best 17 = .ok (.getfield 58, 3) := by decide +kernel
theorem dX11_best_20 : decode cX11_best 20 = .ok (.getfield 226, 3) := by decide +kernel
theorem dX11_best_23 : decode cX11_best 23 = .ok (.ireturn, 1) := by decide +kernel
theorem dX11_best_24 : decode cX11_best 24 = .ok (.iload_n 1, 1) := by decide +kernel
theorem dX11_best_25 : decode cX11_best 25 = .ok (.ifCond .lt 29, 3) := by decide +kernel
theorem dX11_best_28 : decode cX11_best 28 = .ok (.iload_n 1, 1) := by decide +kernel
theorem dX11_best_29 : decode cX11_best 29 = .ok (.aload_n 0, 1) := by decide +kernel
theorem dX11_best_30 : decode cX11_best 30 = .ok (.getfield 19, 3) := by decide +kernel
theorem dX11_best_33 : decode cX11_best 33 = .ok (.getfield 217, 3) := by decide +kernel
theorem dX11_best_36 : decode cX11_best 36 = .ok (.getfield 91, 3) := by decide +kernel
theorem dX11_best_39 : decode cX11_best 39 = .ok (.if_icmp .ge 15, 3) := by decide +kernel
theorem dX11_best_42 : decode cX11_best 42 = .ok (.aload_n 0, 1) := by decide +kernel
theorem dX11_best_43 : decode cX11_best 43 = .ok (.getfield 58, 3) := by decide +kernel
theorem dX11_best_46 : decode cX11_best 46 = .ok (.getfield 227, 3) := by decide +kernel
theorem dX11_best_49 : decode cX11_best 49 = .ok (.iload_n 1, 1) := by decide +kernel
theorem dX11_best_50 : decode cX11_best 50 = .ok (.iaload, 1) := by decide +kernel
theorem dX11_best_51 : decode cX11_best 51 = .ok (.goto 5, 3) := by decide +kernel
theorem dX11_best_54 : decode cX11_best 54 = .ok (.bipush (-6), 2) := by decide +kernel
theorem dX11_best_56 : decode cX11_best 56 = .ok (.ireturn, 1) := by decide +kernel
theorem dX11_night_0 : decode cX11_night 0 = .ok (.iload_n 1, 1) := by decide +kernel
theorem dX11_night_1 : decode cX11_night 1 = .ok (.sipush 9999, 3) := by decide +kernel
theorem dX11_night_4 : decode cX11_night 4 = .ok (.invokestatic 140, 3) := by decide +kernel
theorem dX11_night_7 : decode cX11_night 7 = .ok (.ifCond .eq 22, 3) := by decide +kernel
theorem dX11_night_10 : decode cX11_night 10 = .ok (.iload_n 2, 1) := by decide +kernel
theorem dX11_night_11 : decode cX11_night 11 = .ok (.iconst 1, 1) := by decide +kernel
theorem dX11_night_12 : decode cX11_night 12 = .ok (.if_icmp .lt 17, 3) := by decide +kernel
theorem dX11_night_15 : decode cX11_night 15 = .ok (.iload_n 2, 1) := by decide +kernel
theorem dX11_night_16 : decode cX11_night 16 = .ok (.bipush 60, 2) := by decide +kernel
theorem dX11_night_18 : decode cX11_night 18 = .ok (.if_icmp .gt 11, 3) := by decide +kernel
theorem dX11_night_21 : decode cX11_night 21 = .ok (.iload_n 3, 1) := by decide +kernel
theorem dX11_night_22 : decode cX11_night 22 = .ok (.iconst 2, 1) := by decide +kernel
theorem dX11_night_23 : decode cX11_night 23 = .ok (.invokestatic 140, 3) := by decide +kernel
theorem dX11_night_26 : decode cX11_night 26 = .ok (.ifCond .ne 6, 3) := by decide +kernel
theorem dX11_night_29 : decode cX11_night 29 = .ok (.bipush (-2), 2) := by decide +kernel
theorem dX11_night_31 : decode cX11_night 31 = .ok (.ireturn, 1) := by decide +kernel
theorem dX11_night_32 : decode cX11_night 32 = .ok (.iload_n 1, 1) := by decide +kernel
theorem dX11_night_33 : decode cX11_night 33 = .ok (.istore 4, 2) := by decide +kernel
theorem dX11_night_35 : decode cX11_night 35 = .ok (.iconst 0, 1) := by decide +kernel
theorem dX11_night_36 : decode cX11_night 36 = .ok (.istore 5, 2) := by decide +kernel
theorem dX11_night_38 : decode cX11_night 38 = .ok (.iconst 0, 1) := by decide +kernel
theorem dX11_night_39 : decode cX11_night 39 = .ok (.istore 6, 2) := by decide +kernel
theorem dX11_night_41 : decode cX11_night 41 = .ok (.iload 6, 2) := by decide +kernel
theorem dX11_night_43 : decode cX11_night 43 = .ok (.iload_n 2, 1) := by decide +kernel
theorem dX11_night_44 : decode cX11_night 44 = .ok (.if_icmp .ge 66, 3) := by decide +kernel
theorem dX11_night_47 : decode cX11_night 47 = .ok (.bipush 75, 2) := by decide +kernel
theorem dX11_night_49 : decode cX11_night 49 = .ok (.iload 4, 2) := by decide +kernel
theorem dX11_night_51 : decode cX11_night 51 = .ok (.imul, 1) := by decide +kernel
theorem dX11_night_52 : decode cX11_night 52 = .ok (.bipush 74, 2) := by decide +kernel
theorem dX11_night_54 : decode cX11_night 54 = .ok (.iadd, 1) := by decide +kernel
theorem dX11_night_55 : decode cX11_night 55 = .ok (.ldc 228, 2) := by decide +kernel
theorem dX11_night_57 : decode cX11_night 57 = .ok (.irem, 1) := by decide +kernel
theorem dX11_night_58 : decode cX11_night 58 = .ok (.istore 4, 2) := by decide +kernel
theorem dX11_night_60 : decode cX11_night 60 = .ok (.aload_n 0, 1) := by decide +kernel
theorem dX11_night_61 : decode cX11_night 61 = .ok (.getfield 30, 3) := by decide +kernel
theorem dX11_night_64 : decode cX11_night 64 = .ok (.aload_n 0, 1) := by decide +kernel
theorem dX11_night_65 : decode cX11_night 65 = .ok (.getfield 19, 3) := by decide +kernel
theorem dX11_night_68 : decode cX11_night 68 = .ok (.getfield 74, 3) := by decide +kernel
theorem dX11_night_71 : decode cX11_night 71 = .ok (.iload 4, 2) := by decide +kernel
theorem dX11_night_73 : decode cX11_night 73 = .ok (.bipush 10, 2) := by decide +kernel
theorem dX11_night_75 : decode cX11_night 75 = .ok (.irem, 1) := by decide +kernel
theorem dX11_night_76 : decode cX11_night 76 = .ok (.iload 4, 2) := by decide +kernel
theorem dX11_night_78 : decode cX11_night 78 = .ok (.bipush 10, 2) := by decide +kernel
theorem dX11_night_80 : decode cX11_night 80 = .ok (.idiv, 1) := by decide +kernel
theorem dX11_night_81 : decode cX11_night 81 = .ok (.bipush 10, 2) := by decide +kernel
theorem dX11_night_83 : decode cX11_night 83 = .ok (.irem, 1) := by decide +kernel
theorem dX11_night_84 : decode cX11_night 84 = .ok (.isub, 1) := by decide +kernel
theorem dX11_night_85 : decode cX11_night 85 = .ok (.iconst 0, 1) := by decide +kernel
theorem dX11_night_86 : decode cX11_night 86 = .ok (.iconst 0, 1) := by decide +kernel
theorem dX11_night_87 : decode cX11_night 87 = .ok (.invokevirtual 133, 3) := by decide +kernel
theorem dX11_night_90 : decode cX11_night 90 = .ok (.aload_n 0, 1) := by decide +kernel
theorem dX11_night_91 : decode cX11_night 91 = .ok (.getfield 30, 3) := by decide +kernel
theorem dX11_night_94 : decode cX11_night 94 = .ok (.invokevirtual 149, 3) := by decide +kernel
theorem dX11_night_97 : decode cX11_night 97 = .ok (.iload_n 3, 1) := by decide +kernel
theorem dX11_night_98 : decode cX11_night 98 = .ok (.if_icmp .ne 6, 3) := by decide +kernel
theorem dX11_night_101 : decode cX11_night 101 = .ok (.iinc 5 1, 3) := by decide +kernel
theorem dX11_night_104 : decode cX11_night 104 = .ok (.iinc 6 1, 3) := by decide +kernel
theorem dX11_night_107 : decode cX11_night 107 = .ok (.goto (-66), 3) := by decide +kernel
theorem dX11_night_110 : decode cX11_night 110 = .ok (.iload 5, 2) := by decide +kernel
theorem dX11_night_112 : decode cX11_night 112 = .ok (.ireturn, 1) := by decide +kernel
theorem dX11_image_0 : decode cX11_image 0 = .ok (.iload_n 1, 1) := by decide +kernel
theorem dX11_image_1 : decode cX11_image 1 = .ok (.iconst 1, 1) := by decide +kernel
theorem dX11_image_2 : decode cX11_image 2 = .ok (.invokestatic 140, 3) := by decide +kernel
theorem dX11_image_5 : decode cX11_image 5 = .ok (.ifCond .ne 6, 3) := by decide +kernel
theorem dX11_image_8 : decode cX11_image 8 = .ok (.bipush (-2), 2) := by decide +kernel
theorem dX11_image_10 : decode cX11_image 10 = .ok (.ireturn, 1) := by decide +kernel
theorem dX11_image_11 : decode cX11_image 11 = .ok (.aload_n 0, 1) := by decide +kernel
theorem dX11_image_12 : decode cX11_image 12 = .ok (.getfield 23, 3) := by decide +kernel
theorem dX11_image_15 : decode cX11_image 15 = .ok (.iload_n 1, 1) := by decide +kernel
theorem dX11_image_16 : decode cX11_image 16 = .ok (.aaload, 1) := by decide +kernel
theorem dX11_image_17 : decode cX11_image 17 = .ok (.aload_n 0, 1) := by decide +kernel
theorem dX11_image_18 : decode cX11_image 18 = .ok (.getfield 19, 3) := by decide +kernel
theorem dX11_image_21 : decode cX11_image 21 = .ok (.invokevirtual 229, 3) := by decide +kernel
theorem dX11_image_24 : decode cX11_image 24 = .ok (.aload_n 0, 1) := by decide +kernel
theorem dX11_image_25 : decode cX11_image 25 = .ok (.dup, 1) := by decide +kernel
theorem dX11_image_26 : decode cX11_image 26 = .ok (.getfield 231, 3) := by decide +kernel
theorem dX11_image_29 : decode cX11_image 29 = .ok (.iconst 1, 1) := by decide +kernel
theorem dX11_image_30 : decode cX11_image 30 = .ok (.iload_n 1, 1) := by decide +kernel
theorem dX11_image_31 : decode cX11_image 31 = .ok (.ishl, 1) := by decide +kernel
theorem dX11_image_32 : decode cX11_image 32 = .ok (.ior, 1) := by decide +kernel
theorem dX11_image_33 : decode cX11_image 33 = .ok (.putfield 231, 3) := by decide +kernel
theorem dX11_image_36 : decode cX11_image 36 = .ok (.iconst 1, 1) := by decide +kernel
theorem dX11_image_37 : decode cX11_image 37 = .ok (.ireturn, 1) := by decide +kernel
theorem dX11_restore_0 : decode cX11_restore 0 = .ok (.iload_n 1, 1) := by decide +kernel
theorem dX11_restore_1 : decode cX11_restore 1 = .ok (.iconst 1, 1) := by decide +kernel
theorem dX11_restore_2 : decode cX11_restore 2 = .ok (.invokestatic 140, 3) := by decide +kernel
theorem dX11_restore_5 : decode cX11_restore 5 = .ok (.ifCond .ne 6, 3) := by decide +kernel
theorem dX11_restore_8 : decode cX11_restore 8 = .ok (.bipush (-2), 2) := by decide +kernel
theorem dX11_restore_10 : decode cX11_restore 10 = .ok (.ireturn, 1) := by decide +kernel
theorem dX11_restore_11 : decode cX11_restore 11 = .ok (.aload_n 0, 1) := by decide +kernel
theorem dX11_restore_12 : decode cX11_restore 12 = .ok (.getfield 231, 3) := by decide +kernel
theorem dX11_restore_15 : decode cX11_restore 15 = .ok (.iload_n 1, 1) := by decide +kernel
theorem dX11_restore_16 : decode cX11_restore 16 = .ok (.ishr, 1) := by decide +kernel
theorem dX11_restore_17 : decode cX11_restore 17 = .ok (.iconst 1, 1) := by decide +kernel
theorem dX11_restore_18 : decode cX11_restore 18 = .ok (.iand, 1) := by decide +kernel
theorem dX11_restore_19 : decode cX11_restore 19 = .ok (.ifCond .ne 6, 3) := by decide +kernel
theorem dX11_restore_22 : decode cX11_restore 22 = .ok (.bipush (-3), 2) := by decide +kernel
theorem dX11_restore_24 : decode cX11_restore 24 = .ok (.ireturn, 1) := by decide +kernel
theorem dX11_restore_25 : decode cX11_restore 25 = .ok (.aload_n 0, 1) := by decide +kernel
theorem dX11_restore_26 : decode cX11_restore 26 = .ok (.getfield 19, 3) := by decide +kernel
theorem dX11_restore_29 : decode cX11_restore 29 = .ok (.aload_n 0, 1) := by decide +kernel
theorem dX11_restore_30 : decode cX11_restore 30 = .ok (.getfield 23, 3) := by decide +kernel
theorem dX11_restore_33 : decode cX11_restore 33 = .ok (.iload_n 1, 1) := by decide +kernel
theorem dX11_restore_34 : decode cX11_restore 34 = .ok (.aaload, 1) := by decide +kernel
theorem dX11_restore_35 : decode cX11_restore 35 = .ok (.invokevirtual 229, 3) := by decide +kernel
theorem dX11_restore_38 : decode cX11_restore 38 = .ok (.aload_n 0, 1) := by decide +kernel
theorem dX11_restore_39 : decode cX11_restore 39 = .ok (.invokevirtual 94, 3) := by decide +kernel
theorem dX11_restore_42 : decode cX11_restore 42 = .ok (.iconst 1, 1) := by decide +kernel
theorem dX11_restore_43 : decode cX11_restore 43 = .ok (.ireturn, 1) := by decide +kernel
theorem dX11_told_0 : decode cX11_told 0 = .ok (.iload_n 1, 1) := by decide +kernel
theorem dX11_told_1 : decode cX11_told 1 = .ok (.tableswitch 102 0 5 #[39, 47, 58, 66, 77, 88], 39) := by decide +kernel
theorem dX11_told_40 : decode cX11_told 40 = .ok (.aload_n 0, 1) := by decide +kernel
theorem dX11_told_41 : decode cX11_told 41 = .ok (.getfield 12, 3) := by decide +kernel
theorem dX11_told_44 : decode cX11_told 44 = .ok (.getfield 66, 3) := by decide +kernel
theorem dX11_told_47 : decode cX11_told 47 = .ok (.ireturn, 1) := by decide +kernel
theorem dX11_told_48 : decode cX11_told 48 = .ok (.aload_n 0, 1) := by decide +kernel
theorem dX11_told_49 : decode cX11_told 49 = .ok (.getfield 19, 3) := by decide +kernel
theorem dX11_told_52 : decode cX11_told 52 = .ok (.getfield 74, 3) := by decide +kernel
theorem dX11_told_55 : decode cX11_told 55 = .ok (.getfield 97, 3) := by decide +kernel
theorem dX11_told_58 : decode cX11_told 58 = .ok (.ireturn, 1) := by decide +kernel
theorem dX11_told_59 : decode cX11_told 59 = .ok (.aload_n 0, 1) := by decide +kernel
theorem dX11_told_60 : decode cX11_told 60 = .ok (.getfield 19, 3) := by decide +kernel
theorem dX11_told_63 : decode cX11_told 63 = .ok (.getfield 220, 3) := by decide +kernel
theorem dX11_told_66 : decode cX11_told 66 = .ok (.ireturn, 1) := by decide +kernel
theorem dX11_told_67 : decode cX11_told 67 = .ok (.aload_n 0, 1) := by decide +kernel
theorem dX11_told_68 : decode cX11_told 68 = .ok (.getfield 19, 3) := by decide +kernel
theorem dX11_told_71 : decode cX11_told 71 = .ok (.getfield 87, 3) := by decide +kernel
theorem dX11_told_74 : decode cX11_told 74 = .ok (.getfield 91, 3) := by decide +kernel
theorem dX11_told_77 : decode cX11_told 77 = .ok (.ireturn, 1) := by decide +kernel
theorem dX11_told_78 : decode cX11_told 78 = .ok (.aload_n 0, 1) := by decide +kernel
theorem dX11_told_79 : decode cX11_told 79 = .ok (.getfield 19, 3) := by decide +kernel
theorem dX11_told_82 : decode cX11_told 82 = .ok (.getfield 217, 3) := by decide +kernel
theorem dX11_told_85 : decode cX11_told 85 = .ok (.getfield 91, 3) := by decide +kernel
theorem dX11_told_88 : decode cX11_told 88 = .ok (.ireturn, 1) := by decide +kernel
theorem dX11_told_89 : decode cX11_told 89 = .ok (.aload_n 0, 1) := by decide +kernel
theorem dX11_told_90 : decode cX11_told 90 = .ok (.getfield 19, 3) := by decide +kernel
theorem dX11_told_93 : decode cX11_told 93 = .ok (.getfield 74, 3) := by decide +kernel
theorem dX11_told_96 : decode cX11_told 96 = .ok (.getfield 234, 3) := by decide +kernel
theorem dX11_told_99 : decode cX11_told 99 = .ok (.invokestatic 181, 3) := by decide +kernel
theorem dX11_told_102 : decode cX11_told 102 = .ok (.ireturn, 1) := by decide +kernel
theorem dX11_told_103 : decode cX11_told 103 = .ok (.iload_n 1, 1) := by decide +kernel
theorem dX11_told_104 : decode cX11_told 104 = .ok (.bipush 10, 2) := by decide +kernel
theorem dX11_told_106 : decode cX11_told 106 = .ok (.isub, 1) := by decide +kernel
theorem dX11_told_107 : decode cX11_told 107 = .ok (.istore_n 2, 1) := by decide +kernel
theorem dX11_told_108 : decode cX11_told 108 = .ok (.aload_n 0, 1) := by decide +kernel
theorem dX11_told_109 : decode cX11_told 109 = .ok (.getfield 19, 3) := by decide +kernel
theorem dX11_told_112 : decode cX11_told 112 = .ok (.getfield 74, 3) := by decide +kernel
theorem dX11_told_115 : decode cX11_told 115 = .ok (.iload_n 2, 1) := by decide +kernel
theorem dX11_told_116 : decode cX11_told 116 = .ok (.invokevirtual 100, 3) := by decide +kernel
theorem dX11_told_119 : decode cX11_told 119 = .ok (.ifCond .eq 21, 3) := by decide +kernel
theorem dX11_told_122 : decode cX11_told 122 = .ok (.aload_n 0, 1) := by decide +kernel
theorem dX11_told_123 : decode cX11_told 123 = .ok (.getfield 19, 3) := by decide +kernel
theorem dX11_told_126 : decode cX11_told 126 = .ok (.getfield 74, 3) := by decide +kernel
theorem dX11_told_129 : decode cX11_told 129 = .ok (.getfield 116, 3) := by decide +kernel
theorem dX11_told_132 : decode cX11_told 132 = .ok (.iload_n 2, 1) := by decide +kernel
theorem dX11_told_133 : decode cX11_told 133 = .ok (.iaload, 1) := by decide +kernel
theorem dX11_told_134 : decode cX11_told 134 = .ok (.invokestatic 119, 3) := by decide +kernel
theorem dX11_told_137 : decode cX11_told 137 = .ok (.goto 5, 3) := by decide +kernel
theorem dX11_told_140 : decode cX11_told 140 = .ok (.bipush (-2), 2) := by decide +kernel
theorem dX11_told_142 : decode cX11_told 142 = .ok (.ireturn, 1) := by decide +kernel
theorem dX11_changed_0 : decode cX11_changed 0 = .ok (.aload_n 0, 1) := by decide +kernel
theorem dX11_changed_1 : decode cX11_changed 1 = .ok (.getfield 44, 3) := by decide +kernel
theorem dX11_changed_4 : decode cX11_changed 4 = .ok (.iconst 0, 1) := by decide +kernel
theorem dX11_changed_5 : decode cX11_changed 5 = .ok (.putfield 237, 3) := by decide +kernel
theorem dX11_changed_8 : decode cX11_changed 8 = .ok (.aload_n 0, 1) := by decide +kernel
theorem dX11_changed_9 : decode cX11_changed 9 = .ok (.getfield 51, 3) := by decide +kernel
theorem dX11_changed_12 : decode cX11_changed 12 = .ok (.iconst 0, 1) := by decide +kernel
theorem dX11_changed_13 : decode cX11_changed 13 = .ok (.putfield 241, 3) := by decide +kernel
theorem dX11_changed_16 : decode cX11_changed 16 = .ok (.aload_n 0, 1) := by decide +kernel
theorem dX11_changed_17 : decode cX11_changed 17 = .ok (.getfield 58, 3) := by decide +kernel
theorem dX11_changed_20 : decode cX11_changed 20 = .ok (.iconst 0, 1) := by decide +kernel
theorem dX11_changed_21 : decode cX11_changed 21 = .ok (.putfield 242, 3) := by decide +kernel
theorem dX11_changed_24 : decode cX11_changed 24 = .ok (.return_, 1) := by decide +kernel
theorem dX11_isWithin_0 : decode cX11_isWithin 0 = .ok (.iload_n 0, 1) := by decide +kernel
theorem dX11_isWithin_1 : decode cX11_isWithin 1 = .ok (.ifCond .lt 12, 3) := by decide +kernel
theorem dX11_isWithin_4 : decode cX11_isWithin 4 = .ok (.iload_n 0, 1) := by decide +kernel
theorem dX11_isWithin_5 : decode cX11_isWithin 5 = .ok (.iload_n 1, 1) := by decide +kernel
theorem dX11_isWithin_6 : decode cX11_isWithin 6 = .ok (.if_icmp .gt 7, 3) := by decide +kernel
theorem dX11_isWithin_9 : decode cX11_isWithin 9 = .ok (.iconst 1, 1) := by decide +kernel
theorem dX11_isWithin_10 : decode cX11_isWithin 10 = .ok (.goto 4, 3) := by decide +kernel
theorem dX11_isWithin_13 : decode cX11_isWithin 13 = .ok (.iconst 0, 1) := by decide +kernel
theorem dX11_isWithin_14 : decode cX11_isWithin 14 = .ok (.ireturn, 1) := by decide +kernel
theorem dX11_areLivers_0 : decode cX11_areLivers 0 = .ok (.iload_n 0, 1) := by decide +kernel
theorem dX11_areLivers_1 : decode cX11_areLivers 1 = .ok (.bipush 20, 2) := by decide +kernel
theorem dX11_areLivers_3 : decode cX11_areLivers 3 = .ok (.invokestatic 140, 3) := by decide +kernel
theorem dX11_areLivers_6 : decode cX11_areLivers 6 = .ok (.ifCond .eq 16, 3) := by decide +kernel
theorem dX11_areLivers_9 : decode cX11_areLivers 9 = .ok (.iload_n 1, 1) := by decide +kernel
theorem dX11_areLivers_10 : decode cX11_areLivers 10 = .ok (.bipush 20, 2) := by decide +kernel
theorem dX11_areLivers_12 : decode cX11_areLivers 12 = .ok (.invokestatic 140, 3) := by decide +kernel
theorem dX11_areLivers_15 : decode cX11_areLivers 15 = .ok (.ifCond .eq 7, 3) := by decide +kernel
theorem dX11_areLivers_18 : decode cX11_areLivers 18 = .ok (.iconst 1, 1) := by decide +kernel
theorem dX11_areLivers_19 : decode cX11_areLivers 19 = .ok (.goto 4, 3) := by decide +kernel
theorem dX11_areLivers_22 : decode cX11_areLivers 22 = .ok (.iconst 0, 1) := by decide +kernel
theorem dX11_areLivers_23 : decode cX11_areLivers 23 = .ok (.ireturn, 1) := by decide +kernel
theorem dX11_heirTold_0 : decode cX11_heirTold 0 = .ok (.iload_n 0, 1) := by decide +kernel
theorem dX11_heirTold_1 : decode cX11_heirTold 1 = .ok (.iconst (-1), 1) := by decide +kernel
theorem dX11_heirTold_2 : decode cX11_heirTold 2 = .ok (.if_icmp .ne 8, 3) := by decide +kernel
theorem dX11_heirTold_5 : decode cX11_heirTold 5 = .ok (.bipush (-6), 2) := by decide +kernel
theorem dX11_heirTold_7 : decode cX11_heirTold 7 = .ok (.goto 4, 3) := by decide +kernel
theorem dX11_heirTold_10 : decode cX11_heirTold 10 = .ok (.iload_n 0, 1) := by decide +kernel
theorem dX11_heirTold_11 : decode cX11_heirTold 11 = .ok (.ireturn, 1) := by decide +kernel
theorem dX11_factorial_0 : decode cX11_factorial 0 = .ok (.iload_n 0, 1) := by decide +kernel
theorem dX11_factorial_1 : decode cX11_factorial 1 = .ok (.ifCond .lt 19, 3) := by decide +kernel
theorem dX11_factorial_4 : decode cX11_factorial 4 = .ok (.iload_n 0, 1) := by decide +kernel
theorem dX11_factorial_5 : decode cX11_factorial 5 = .ok (.getstatic 243, 3) := by decide +kernel
theorem dX11_factorial_8 : decode cX11_factorial 8 = .ok (.arraylength, 1) := by decide +kernel
theorem dX11_factorial_9 : decode cX11_factorial 9 = .ok (.if_icmp .ge 11, 3) := by decide +kernel
theorem dX11_factorial_12 : decode cX11_factorial 12 = .ok (.getstatic 243, 3) := by decide +kernel
theorem dX11_factorial_15 : decode cX11_factorial 15 = .ok (.iload_n 0, 1) := by decide +kernel
theorem dX11_factorial_16 : decode cX11_factorial 16 = .ok (.iaload, 1) := by decide +kernel
theorem dX11_factorial_17 : decode cX11_factorial 17 = .ok (.goto 4, 3) := by decide +kernel
theorem dX11_factorial_20 : decode cX11_factorial 20 = .ok (.iconst 1, 1) := by decide +kernel
theorem dX11_factorial_21 : decode cX11_factorial 21 = .ok (.ireturn, 1) := by decide +kernel
