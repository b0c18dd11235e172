theorem dX0_init_0 : decode cX0_init 0 = .ok (.aload_n 0, 1) := by decide +kernel
theorem dX0_init_1 : decode cX0_init 1 = .ok (.invokespecial 3, 3) := by decide +kernel
theorem dX0_init_4 : decode cX0_init 4 = .ok (.return_, 1) := by decide +kernel
theorem dX0_open_0 : decode cX0_open 0 = .ok (.aload_n 0, 1) := by decide +kernel
theorem dX0_open_1 : decode cX0_open 1 = .ok (.iconst 0, 1) := by decide +kernel
theorem dX0_open_2 : decode cX0_open 2 = .ok (.putfield 9, 3) := by decide +kernel
theorem dX0_open_5 : decode cX0_open 5 = .ok (.aload_n 0, 1) := by decide +kernel
theorem dX0_open_6 : decode cX0_open 6 = .ok (.iconst 0, 1) := by decide +kernel
theorem dX0_open_7 : decode cX0_open 7 = .ok (.putfield 15, 3) := by decide +kernel
theorem dX0_open_10 : decode cX0_open 10 = .ok (.aload_n 0, 1) := by decide +kernel
theorem dX0_open_11 : decode cX0_open 11 = .ok (.iconst 0, 1) := by decide +kernel
theorem dX0_open_12 : decode cX0_open 12 = .ok (.putfield 18, 3) := by decide +kernel
theorem dX0_open_15 : decode cX0_open 15 = .ok (.aload_n 0, 1) := by decide +kernel
theorem dX0_open_16 : decode cX0_open 16 = .ok (.iconst 0, 1) := by decide +kernel
theorem dX0_open_17 : decode cX0_open 17 = .ok (.putfield 21, 3) := by decide +kernel
theorem dX0_open_20 : decode cX0_open 20 = .ok (.return_, 1) := by decide +kernel
theorem dX0_hold_0 : decode cX0_hold 0 = .ok (.aload_n 0, 1) := by decide +kernel
theorem dX0_hold_1 : decode cX0_hold 1 = .ok (.invokevirtual 24, 3) := by decide +kernel
theorem dX0_hold_4 : decode cX0_hold 4 = .ok (.iconst 0, 1) := by decide +kernel
theorem dX0_hold_5 : decode cX0_hold 5 = .ok (.istore 5, 2) := by decide +kernel
theorem dX0_hold_7 : decode cX0_hold 7 = .ok (.iload 5, 2) := by decide +kernel
theorem dX0_hold_9 : decode cX0_hold 9 = .ok (.aload_n 1, 1) := by decide +kernel
theorem dX0_hold_10 : decode cX0_hold 10 = .ok (.getfield 27, 3) := by decide +kernel
theorem dX0_hold_13 : decode cX0_hold 13 = .ok (.if_icmp .ge 40, 3) := by decide +kernel
theorem dX0_hold_16 : decode cX0_hold 16 = .ok (.iload_n 3, 1) := by decide +kernel
theorem dX0_hold_17 : decode cX0_hold 17 = .ok (.iload 5, 2) := by decide +kernel
theorem dX0_hold_19 : decode cX0_hold 19 = .ok (.ishr, 1) := by decide +kernel
theorem dX0_hold_20 : decode cX0_hold 20 = .ok (.iconst 1, 1) := by decide +kernel
theorem dX0_hold_21 : decode cX0_hold 21 = .ok (.iand, 1) := by decide +kernel
theorem dX0_hold_22 : decode cX0_hold 22 = .ok (.ifCond .ne 25, 3) := by decide +kernel
theorem dX0_hold_25 : decode cX0_hold 25 = .ok (.aload_n 0, 1) := by decide +kernel
theorem dX0_hold_26 : decode cX0_hold 26 = .ok (.aload_n 1, 1) := by decide +kernel
theorem dX0_hold_27 : decode cX0_hold 27 = .ok (.iload 5, 2) := by decide +kernel
theorem dX0_hold_29 : decode cX0_hold 29 = .ok (.iload 4, 2) := by decide +kernel
theorem dX0_hold_31 : decode cX0_hold 31 = .ok (.iload 5, 2) := by decide +kernel
theorem dX0_hold_33 : decode cX0_hold 33 = .ok (.ishr, 1) := by decide +kernel
theorem dX0_hold_34 : decode cX0_hold 34 = .ok (.iconst 1, 1) := by decide +kernel
theorem dX0_hold_35 : decode cX0_hold 35 = .ok (.iand, 1) := by decide +kernel
theorem dX0_hold_36 : decode cX0_hold 36 = .ok (.ifCond .ne 7, 3) := by decide +kernel
theorem dX0_hold_39 : decode cX0_hold 39 = .ok (.iload_n 2, 1) := by decide +kernel
theorem dX0_hold_40 : decode cX0_hold 40 = .ok (.goto 4, 3) := by decide +kernel
theorem dX0_hold_43 : decode cX0_hold 43 = .ok (.iconst 0, 1) := by decide +kernel
theorem dX0_hold_44 : decode cX0_hold 44 = .ok (.invokevirtual 32, 3) := by decide +kernel
theorem dX0_hold_47 : decode cX0_hold 47 = .ok (.iinc 5 1, 3) := by decide +kernel
theorem dX0_hold_50 : decode cX0_hold 50 = .ok (.goto (-43), 3) := by decide +kernel
theorem dX0_hold_53 : decode cX0_hold 53 = .ok (.return_, 1) := by decide +kernel
theorem dX0_send_0 : decode cX0_send 0 = .ok (.aload_n 1, 1) := by decide +kernel
theorem dX0_send_1 : decode cX0_send 1 = .ok (.iload_n 2, 1) := by decide +kernel
theorem dX0_send_2 : decode cX0_send 2 = .ok (.invokevirtual 36, 3) := by decide +kernel
theorem dX0_send_5 : decode cX0_send 5 = .ok (.ifCond .eq 11, 3) := by decide +kernel
theorem dX0_send_8 : decode cX0_send 8 = .ok (.aload_n 1, 1) := by decide +kernel
theorem dX0_send_9 : decode cX0_send 9 = .ok (.iload_n 2, 1) := by decide +kernel
theorem dX0_send_10 : decode cX0_send 10 = .ok (.invokevirtual 40, 3) := by decide +kernel
theorem dX0_send_13 : decode cX0_send 13 = .ok (.ifCond .eq 4, 3) := by decide +kernel
theorem dX0_send_16 : decode cX0_send 16 = .ok (.return_, 1) := by decide +kernel
theorem dX0_send_17 : decode cX0_send 17 = .ok (.aload_n 1, 1) := by decide +kernel
theorem dX0_send_18 : decode cX0_send 18 = .ok (.getfield 43, 3) := by decide +kernel
theorem dX0_send_21 : decode cX0_send 21 = .ok (.iload_n 2, 1) := by decide +kernel
theorem dX0_send_22 : decode cX0_send 22 = .ok (.iaload, 1) := by decide +kernel
theorem dX0_send_23 : decode cX0_send 23 = .ok (.iload_n 3, 1) := by decide +kernel
theorem dX0_send_24 : decode cX0_send 24 = .ok (.iadd, 1) := by decide +kernel
theorem dX0_send_25 : decode cX0_send 25 = .ok (.istore 4, 2) := by decide +kernel
theorem dX0_send_27 : decode cX0_send 27 = .ok (.iload 4, 2) := by decide +kernel
theorem dX0_send_29 : decode cX0_send 29 = .ok (.ifCond .gt 19, 3) := by decide +kernel
theorem dX0_send_32 : decode cX0_send 32 = .ok (.iload 4, 2) := by decide +kernel
theorem dX0_send_34 : decode cX0_send 34 = .ok (.ifCond .ne 18, 3) := by decide +kernel
theorem dX0_send_37 : decode cX0_send 37 = .ok (.aload_n 0, 1) := by decide +kernel
theorem dX0_send_38 : decode cX0_send 38 = .ok (.getfield 9, 3) := by decide +kernel
theorem dX0_send_41 : decode cX0_send 41 = .ok (.aload_n 0, 1) := by decide +kernel
theorem dX0_send_42 : decode cX0_send 42 = .ok (.getfield 15, 3) := by decide +kernel
theorem dX0_send_45 : decode cX0_send 45 = .ok (.if_icmp .lt 7, 3) := by decide +kernel
theorem dX0_send_48 : decode cX0_send 48 = .ok (.iconst 1, 1) := by decide +kernel
theorem dX0_send_49 : decode cX0_send 49 = .ok (.goto 4, 3) := by decide +kernel
theorem dX0_send_52 : decode cX0_send 52 = .ok (.iconst 0, 1) := by decide +kernel
theorem dX0_send_53 : decode cX0_send 53 = .ok (.istore 5, 2) := by decide +kernel
theorem dX0_send_55 : decode cX0_send 55 = .ok (.aload_n 1, 1) := by decide +kernel
theorem dX0_send_56 : decode cX0_send 56 = .ok (.getfield 47, 3) := by decide +kernel
theorem dX0_send_59 : decode cX0_send 59 = .ok (.iload_n 2, 1) := by decide +kernel
theorem dX0_send_60 : decode cX0_send 60 = .ok (.iaload, 1) := by decide +kernel
theorem dX0_send_61 : decode cX0_send 61 = .ok (.aload_n 0, 1) := by decide +kernel
theorem dX0_send_62 : decode cX0_send 62 = .ok (.getfield 18, 3) := by decide +kernel
theorem dX0_send_65 : decode cX0_send 65 = .ok (.iand, 1) := by decide +kernel
theorem dX0_send_66 : decode cX0_send 66 = .ok (.ifCond .eq 7, 3) := by decide +kernel
theorem dX0_send_69 : decode cX0_send 69 = .ok (.iconst 1, 1) := by decide +kernel
theorem dX0_send_70 : decode cX0_send 70 = .ok (.goto 4, 3) := by decide +kernel
theorem dX0_send_73 : decode cX0_send 73 = .ok (.iconst 0, 1) := by decide +kernel
theorem dX0_send_74 : decode cX0_send 74 = .ok (.istore 6, 2) := by decide +kernel
theorem dX0_send_76 : decode cX0_send 76 = .ok (.aload_n 1, 1) := by decide +kernel
theorem dX0_send_77 : decode cX0_send 77 = .ok (.getfield 47, 3) := by decide +kernel
theorem dX0_send_80 : decode cX0_send 80 = .ok (.iload_n 2, 1) := by decide +kernel
theorem dX0_send_81 : decode cX0_send 81 = .ok (.iaload, 1) := by decide +kernel
theorem dX0_send_82 : decode cX0_send 82 = .ok (.aload_n 0, 1) := by decide +kernel
theorem dX0_send_83 : decode cX0_send 83 = .ok (.getfield 21, 3) := by decide +kernel
theorem dX0_send_86 : decode cX0_send 86 = .ok (.iand, 1) := by decide +kernel
theorem dX0_send_87 : decode cX0_send 87 = .ok (.ifCond .eq 7, 3) := by decide +kernel
theorem dX0_send_90 : decode cX0_send 90 = .ok (.iconst 1, 1) := by decide +kernel
theorem dX0_send_91 : decode cX0_send 91 = .ok (.goto 4, 3) := by decide +kernel
theorem dX0_send_94 : decode cX0_send 94 = .ok (.iconst 0, 1) := by decide +kernel
theorem dX0_send_95 : decode cX0_send 95 = .ok (.istore 7, 2) := by decide +kernel
theorem dX0_send_97 : decode cX0_send 97 = .ok (.iload 6, 2) := by decide +kernel
theorem dX0_send_99 : decode cX0_send 99 = .ok (.ifCond .ne 43, 3) := by decide +kernel
theorem dX0_send_102 : decode cX0_send 102 = .ok (.iload 5, 2) := by decide +kernel
theorem dX0_send_104 : decode cX0_send 104 = .ok (.ifCond .ne 8, 3) := by decide +kernel
theorem dX0_send_107 : decode cX0_send 107 = .ok (.iload 7, 2) := by decide +kernel
theorem dX0_send_109 : decode cX0_send 109 = .ok (.ifCond .eq 33, 3) := by decide +kernel
theorem dX0_send_112 : decode cX0_send 112 = .ok (.aload_n 0, 1) := by decide +kernel
theorem dX0_send_113 : decode cX0_send 113 = .ok (.dup, 1) := by decide +kernel
theorem dX0_send_114 : decode cX0_send 114 = .ok (.getfield 18, 3) := by decide +kernel
theorem dX0_send_117 : decode cX0_send 117 = .ok (.iconst 1, 1) := by decide +kernel
theorem dX0_send_118 : decode cX0_send 118 = .ok (.iload_n 2, 1) := by decide +kernel
theorem dX0_send_119 : decode cX0_send 119 = .ok (.ishl, 1) := by decide +kernel
theorem dX0_send_120 : decode cX0_send 120 = .ok (.ior, 1) := by decide +kernel
theorem dX0_send_121 : decode cX0_send 121 = .ok (.putfield 18, 3) := by decide +kernel
theorem dX0_send_124 : decode cX0_send 124 = .ok (.aload_n 0, 1) := by decide +kernel
theorem dX0_send_125 : decode cX0_send 125 = .ok (.dup, 1) := by decide +kernel
theorem dX0_send_126 : decode cX0_send 126 = .ok (.getfield 9, 3) := by decide +kernel
theorem dX0_send_129 : decode cX0_send 129 = .ok (.aload_n 1, 1) := by decide +kernel
theorem dX0_send_130 : decode cX0_send 130 = .ok (.getfield 50, 3) := by decide +kernel
theorem dX0_send_133 : decode cX0_send 133 = .ok (.iload_n 2, 1) := by decide +kernel
theorem dX0_send_134 : decode cX0_send 134 = .ok (.iaload, 1) := by decide +kernel
theorem dX0_send_135 : decode cX0_send 135 = .ok (.iadd, 1) := by decide +kernel
theorem dX0_send_136 : decode cX0_send 136 = .ok (.putfield 9, 3) := by decide +kernel
theorem dX0_send_139 : decode cX0_send 139 = .ok (.goto 35, 3) := by decide +kernel
theorem dX0_send_142 : decode cX0_send 142 = .ok (.iload 7, 2) := by decide +kernel
theorem dX0_send_144 : decode cX0_send 144 = .ok (.ifCond .ne 30, 3) := by decide +kernel
theorem dX0_send_147 : decode cX0_send 147 = .ok (.aload_n 0, 1) := by decide +kernel
theorem dX0_send_148 : decode cX0_send 148 = .ok (.dup, 1) := by decide +kernel
theorem dX0_send_149 : decode cX0_send 149 = .ok (.getfield 21, 3) := by decide +kernel
theorem dX0_send_152 : decode cX0_send 152 = .ok (.iconst 1, 1) := by decide +kernel
theorem dX0_send_153 : decode cX0_send 153 = .ok (.iload_n 2, 1) := by decide +kernel
theorem dX0_send_154 : decode cX0_send 154 = .ok (.ishl, 1) := by decide +kernel
theorem dX0_send_155 : decode cX0_send 155 = .ok (.ior, 1) := by decide +kernel
theorem dX0_send_156 : decode cX0_send 156 = .ok (.putfield 21, 3) := by decide +kernel
theorem dX0_send_159 : decode cX0_send 159 = .ok (.aload_n 0, 1) := by decide +kernel
theorem dX0_send_160 : decode cX0_send 160 = .ok (.dup, 1) := by decide +kernel
theorem dX0_send_161 : decode cX0_send 161 = .ok (.getfield 15, 3) := by decide +kernel
theorem dX0_send_164 : decode cX0_send 164 = .ok (.aload_n 1, 1) := by decide +kernel
theorem dX0_send_165 : decode cX0_send 165 = .ok (.getfield 50, 3) := by decide +kernel
theorem dX0_send_168 : decode cX0_send 168 = .ok (.iload_n 2, 1) := by decide +kernel
theorem dX0_send_169 : decode cX0_send 169 = .ok (.iaload, 1) := by decide +kernel
theorem dX0_send_170 : decode cX0_send 170 = .ok (.iadd, 1) := by decide +kernel
theorem dX0_send_171 : decode cX0_send 171 = .ok (.putfield 15, 3) := by decide +kernel
theorem dX0_send_174 : decode cX0_send 174 = .ok (.return_, 1) := by decide +kernel
theorem dX0_placeOf_0 : decode cX0_placeOf 0 = .ok (.aload_n 0, 1) := by decide +kernel
theorem dX0_placeOf_1 : decode cX0_placeOf 1 = .ok (.getfield 18, 3) := by decide +kernel
theorem dX0_placeOf_4 : decode cX0_placeOf 4 = .ok (.iload_n 1, 1) := by decide +kernel
theorem dX0_placeOf_5 : decode cX0_placeOf 5 = .ok (.ishr, 1) := by decide +kernel
theorem dX0_placeOf_6 : decode cX0_placeOf 6 = .ok (.iconst 1, 1) := by decide +kernel
theorem dX0_placeOf_7 : decode cX0_placeOf 7 = .ok (.iand, 1) := by decide +kernel
theorem dX0_placeOf_8 : decode cX0_placeOf 8 = .ok (.iconst 1, 1) := by decide +kernel
theorem dX0_placeOf_9 : decode cX0_placeOf 9 = .ok (.if_icmp .ne 5, 3) := by decide +kernel
theorem dX0_placeOf_12 : decode cX0_placeOf 12 = .ok (.iconst 0, 1) := by decide +kernel
theorem dX0_placeOf_13 : decode cX0_placeOf 13 = .ok (.ireturn, 1) := by decide +kernel
theorem dX0_placeOf_14 : decode cX0_placeOf 14 = .ok (.aload_n 0, 1) := by decide +kernel
theorem dX0_placeOf_15 : decode cX0_placeOf 15 = .ok (.getfield 21, 3) := by decide +kernel
theorem dX0_placeOf_18 : decode cX0_placeOf 18 = .ok (.iload_n 1, 1) := by decide +kernel
theorem dX0_placeOf_19 : decode cX0_placeOf 19 = .ok (.ishr, 1) := by decide +kernel
theorem dX0_placeOf_20 : decode cX0_placeOf 20 = .ok (.iconst 1, 1) := by decide +kernel
theorem dX0_placeOf_21 : decode cX0_placeOf 21 = .ok (.iand, 1) := by decide +kernel
theorem dX0_placeOf_22 : decode cX0_placeOf 22 = .ok (.iconst 1, 1) := by decide +kernel
theorem dX0_placeOf_23 : decode cX0_placeOf 23 = .ok (.if_icmp .ne 7, 3) := by decide +kernel
theorem dX0_placeOf_26 : decode cX0_placeOf 26 = .ok (.iconst 1, 1) := by decide +kernel
theorem dX0_placeOf_27 : decode cX0_placeOf 27 = .ok (.goto 4, 3) := by decide +kernel
theorem dX0_placeOf_30 : decode cX0_placeOf 30 = .ok (.iconst 2, 1) := by decide +kernel
theorem dX0_placeOf_31 : decode cX0_placeOf 31 = .ok (.ireturn, 1) := by decide +kernel
theorem dX0_winner_0 : decode cX0_winner 0 = .ok (.aload_n 0, 1) := by decide +kernel
theorem dX0_winner_1 : decode cX0_winner 1 = .ok (.getfield 9, 3) := by decide +kernel
theorem dX0_winner_4 : decode cX0_winner 4 = .ok (.aload_n 0, 1) := by decide +kernel
theorem dX0_winner_5 : decode cX0_winner 5 = .ok (.getfield 15, 3) := by decide +kernel
theorem dX0_winner_8 : decode cX0_winner 8 = .ok (.if_icmp .ne 5, 3) := by decide +kernel
theorem dX0_winner_11 : decode cX0_winner 11 = .ok (.iconst 2, 1) := by decide +kernel
theorem dX0_winner_12 : decode cX0_winner 12 = .ok (.ireturn, 1) := by decide +kernel
theorem dX0_winner_13 : decode cX0_winner 13 = .ok (.aload_n 0, 1) := by decide +kernel
theorem dX0_winner_14 : decode cX0_winner 14 = .ok (.getfield 9, 3) := by decide +kernel
theorem dX0_winner_17 : decode cX0_winner 17 = .ok (.aload_n 0, 1) := by decide +kernel
theorem dX0_winner_18 : decode cX0_winner 18 = .ok (.getfield 15, 3) := by decide +kernel
theorem dX0_winner_21 : decode cX0_winner 21 = .ok (.if_icmp .le 7, 3) := by decide +kernel
theorem dX0_winner_24 : decode cX0_winner 24 = .ok (.iconst 0, 1) := by decide +kernel
theorem dX0_winner_25 : decode cX0_winner 25 = .ok (.goto 4, 3) := by decide +kernel
theorem dX0_winner_28 : decode cX0_winner 28 = .ok (.iconst 1, 1) := by decide +kernel
theorem dX0_winner_29 : decode cX0_winner 29 = .ok (.ireturn, 1) := by decide +kernel
theorem dX1_init_0 : decode cX1_init 0 = .ok (.aload_n 0, 1) := by decide +kernel
theorem dX1_init_1 : decode cX1_init 1 = .ok (.invokespecial 3, 3) := by decide +kernel
theorem dX1_init_4 : decode cX1_init 4 = .ok (.aload_n 0, 1) := by decide +kernel
theorem dX1_init_5 : decode cX1_init 5 = .ok (.new 9, 3) := by decide +kernel
theorem dX1_init_8 : decode cX1_init 8 = .ok (.dup, 1) := by decide +kernel
theorem dX1_init_9 : decode cX1_init 9 = .ok (.invokespecial 11, 3) := by decide +kernel
theorem dX1_init_12 : decode cX1_init 12 = .ok (.putfield 12, 3) := by decide +kernel
theorem dX1_init_15 : decode cX1_init 15 = .ok (.aload_n 0, 1) := by decide +kernel
theorem dX1_init_16 : decode cX1_init 16 = .ok (.bipush 19, 2) := by decide +kernel
theorem dX1_init_18 : decode cX1_init 18 = .ok (.newarray .int, 2) := by decide +kernel
theorem dX1_init_20 : decode cX1_init 20 = .ok (.putfield 18, 3) := by decide +kernel
theorem dX1_init_23 : decode cX1_init 23 = .ok (.return_, 1) := by decide +kernel
theorem dX1_learn_0 : decode cX1_learn 0 = .ok (.bipush (-9), 2) := by decide +kernel
theorem dX1_learn_2 : decode cX1_learn 2 = .ok (.istore_n 2, 1) := by decide +kernel
theorem dX1_learn_3 : decode cX1_learn 3 = .ok (.iload_n 2, 1) := by decide +kernel
theorem dX1_learn_4 : decode cX1_learn 4 = .ok (.bipush 9, 2) := by decide +kernel
theorem dX1_learn_6 : decode cX1_learn 6 = .ok (.if_icmp .gt 36, 3) := by decide +kernel
theorem dX1_learn_9 : decode cX1_learn 9 = .ok (.aload_n 0, 1) := by decide +kernel
theorem dX1_learn_10 : decode cX1_learn 10 = .ok (.getfield 12, 3) := by decide +kernel
theorem dX1_learn_13 : decode cX1_learn 13 = .ok (.aload_n 1, 1) := by decide +kernel
theorem dX1_learn_14 : decode cX1_learn 14 = .ok (.iload_n 2, 1) := by decide +kernel
theorem dX1_learn_15 : decode cX1_learn 15 = .ok (.iconst 0, 1) := by decide +kernel
theorem dX1_learn_16 : decode cX1_learn 16 = .ok (.iconst 0, 1) := by decide +kernel
theorem dX1_learn_17 : decode cX1_learn 17 = .ok (.invokevirtual 22, 3) := by decide +kernel
theorem dX1_learn_20 : decode cX1_learn 20 = .ok (.aload_n 0, 1) := by decide +kernel
theorem dX1_learn_21 : decode cX1_learn 21 = .ok (.getfield 18, 3) := by decide +kernel
theorem dX1_learn_24 : decode cX1_learn 24 = .ok (.iload_n 2, 1) := by decide +kernel
theorem dX1_learn_25 : decode cX1_learn 25 = .ok (.bipush 9, 2) := by decide +kernel
theorem dX1_learn_27 : decode cX1_learn 27 = .ok (.iadd, 1) := by decide +kernel
theorem dX1_learn_28 : decode cX1_learn 28 = .ok (.aload_n 0, 1) := by decide +kernel
theorem dX1_learn_29 : decode cX1_learn 29 = .ok (.getfield 12, 3) := by decide +kernel
theorem dX1_learn_32 : decode cX1_learn 32 = .ok (.invokevirtual 26, 3) := by decide +kernel
theorem dX1_learn_35 : decode cX1_learn 35 = .ok (.iastore, 1) := by decide +kernel
theorem dX1_learn_36 : decode cX1_learn 36 = .ok (.iinc 2 1, 3) := by decide +kernel
theorem dX1_learn_39 : decode cX1_learn 39 = .ok (.goto (-36), 3) := by decide +kernel
theorem dX1_learn_42 : decode cX1_learn 42 = .ok (.return_, 1) := by decide +kernel
theorem dX1_bothRest_0 : decode cX1_bothRest 0 = .ok (.aload_n 0, 1) := by decide +kernel
theorem dX1_bothRest_1 : decode cX1_bothRest 1 = .ok (.iconst 0, 1) := by decide +kernel
theorem dX1_bothRest_2 : decode cX1_bothRest 2 = .ok (.iload_n 1, 1) := by decide +kernel
theorem dX1_bothRest_3 : decode cX1_bothRest 3 = .ok (.iload_n 2, 1) := by decide +kernel
theorem dX1_bothRest_4 : decode cX1_bothRest 4 = .ok (.invokevirtual 30, 3) := by decide +kernel
theorem dX1_bothRest_7 : decode cX1_bothRest 7 = .ok (.istore_n 3, 1) := by decide +kernel
theorem dX1_bothRest_8 : decode cX1_bothRest 8 = .ok (.aload_n 0, 1) := by decide +kernel
theorem dX1_bothRest_9 : decode cX1_bothRest 9 = .ok (.iconst 1, 1) := by decide +kernel
theorem dX1_bothRest_10 : decode cX1_bothRest 10 = .ok (.iload_n 1, 1) := by decide +kernel
theorem dX1_bothRest_11 : decode cX1_bothRest 11 = .ok (.iload_n 2, 1) := by decide +kernel
theorem dX1_bothRest_12 : decode cX1_bothRest 12 = .ok (.invokevirtual 30, 3) := by decide +kernel
theorem dX1_bothRest_15 : decode cX1_bothRest 15 = .ok (.istore 4, 2) := by decide +kernel
theorem dX1_bothRest_17 : decode cX1_bothRest 17 = .ok (.iconst 0, 1) := by decide +kernel
theorem dX1_bothRest_18 : decode cX1_bothRest 18 = .ok (.istore 5, 2) := by decide +kernel
theorem dX1_bothRest_20 : decode cX1_bothRest 20 = .ok (.iload 5, 2) := by decide +kernel
theorem dX1_bothRest_22 : decode cX1_bothRest 22 = .ok (.bipush 9, 2) := by decide +kernel
theorem dX1_bothRest_24 : decode cX1_bothRest 24 = .ok (.if_icmp .gt 36, 3) := by decide +kernel
theorem dX1_bothRest_27 : decode cX1_bothRest 27 = .ok (.aload_n 0, 1) := by decide +kernel
theorem dX1_bothRest_28 : decode cX1_bothRest 28 = .ok (.iconst 0, 1) := by decide +kernel
theorem dX1_bothRest_29 : decode cX1_bothRest 29 = .ok (.iload 5, 2) := by decide +kernel
theorem dX1_bothRest_31 : decode cX1_bothRest 31 = .ok (.iload_n 2, 1) := by decide +kernel
theorem dX1_bothRest_32 : decode cX1_bothRest 32 = .ok (.invokevirtual 30, 3) := by decide +kernel
theorem dX1_bothRest_35 : decode cX1_bothRest 35 = .ok (.iload_n 3, 1) := by decide +kernel
theorem dX1_bothRest_36 : decode cX1_bothRest 36 = .ok (.if_icmp .gt 16, 3) := by decide +kernel
theorem dX1_bothRest_39 : decode cX1_bothRest 39 = .ok (.aload_n 0, 1) := by decide +kernel
theorem dX1_bothRest_40 : decode cX1_bothRest 40 = .ok (.iconst 1, 1) := by decide +kernel
theorem dX1_bothRest_41 : decode cX1_bothRest 41 = .ok (.iload_n 1, 1) := by decide +kernel
theorem dX1_bothRest_42 : decode cX1_bothRest 42 = .ok (.iload 5, 2) := by decide +kernel
theorem dX1_bothRest_44 : decode cX1_bothRest 44 = .ok (.invokevirtual 30, 3) := by decide +kernel
theorem dX1_bothRest_47 : decode cX1_bothRest 47 = .ok (.iload 4, 2) := by decide +kernel
theorem dX1_bothRest_49 : decode cX1_bothRest 49 = .ok (.if_icmp .le 5, 3) := by decide +kernel
theorem dX1_bothRest_52 : decode cX1_bothRest 52 = .ok (.iconst 0, 1) := by decide +kernel
theorem dX1_bothRest_53 : decode cX1_bothRest 53 = .ok (.ireturn, 1) := by decide +kernel
theorem dX1_bothRest_54 : decode cX1_bothRest 54 = .ok (.iinc 5 1, 3) := by decide +kernel
theorem dX1_bothRest_57 : decode cX1_bothRest 57 = .ok (.goto (-37), 3) := by decide +kernel
theorem dX1_bothRest_60 : decode cX1_bothRest 60 = .ok (.iconst 1, 1) := by decide +kernel
theorem dX1_bothRest_61 : decode cX1_bothRest 61 = .ok (.ireturn, 1) := by decide +kernel
theorem dX1_has_0 : decode cX1_has 0 = .ok (.iload_n 2, 1) := by decide +kernel
theorem dX1_has_1 : decode cX1_has 1 = .ok (.iload_n 3, 1) := by decide +kernel
theorem dX1_has_2 : decode cX1_has 2 = .ok (.isub, 1) := by decide +kernel
theorem dX1_has_3 : decode cX1_has 3 = .ok (.bipush 9, 2) := by decide +kernel
theorem dX1_has_5 : decode cX1_has 5 = .ok (.iadd, 1) := by decide +kernel
theorem dX1_has_6 : decode cX1_has 6 = .ok (.istore 4, 2) := by decide +kernel
theorem dX1_has_8 : decode cX1_has 8 = .ok (.iload 4, 2) := by decide +kernel
theorem dX1_has_10 : decode cX1_has 10 = .ok (.ifCond .lt 23, 3) := by decide +kernel
theorem dX1_has_13 : decode cX1_has 13 = .ok (.iload 4, 2) := by decide +kernel
theorem dX1_has_15 : decode cX1_has 15 = .ok (.aload_n 0, 1) := by decide +kernel
theorem dX1_has_16 : decode cX1_has 16 = .ok (.getfield 18, 3) := by decide +kernel
theorem dX1_has_19 : decode cX1_has 19 = .ok (.arraylength, 1) := by decide +kernel
theorem dX1_has_20 : decode cX1_has 20 = .ok (.if_icmp .ge 13, 3) := by decide +kernel
theorem dX1_has_23 : decode cX1_has 23 = .ok (.aload_n 0, 1) := by decide +kernel
theorem dX1_has_24 : decode cX1_has 24 = .ok (.getfield 18, 3) := by decide +kernel
theorem dX1_has_27 : decode cX1_has 27 = .ok (.iload 4, 2) := by decide +kernel
theorem dX1_has_29 : decode cX1_has 29 = .ok (.iaload, 1) := by decide +kernel
theorem dX1_has_30 : decode cX1_has 30 = .ok (.goto 4, 3) := by decide +kernel
theorem dX1_has_33 : decode cX1_has 33 = .ok (.iconst 2, 1) := by decide +kernel
theorem dX1_has_34 : decode cX1_has 34 = .ok (.istore 5, 2) := by decide +kernel
theorem dX1_has_36 : decode cX1_has 36 = .ok (.iload_n 1, 1) := by decide +kernel
theorem dX1_has_37 : decode cX1_has 37 = .ok (.ifCond .ne 7, 3) := by decide +kernel
theorem dX1_has_40 : decode cX1_has 40 = .ok (.iload_n 2, 1) := by decide +kernel
theorem dX1_has_41 : decode cX1_has 41 = .ok (.goto 4, 3) := by decide +kernel
theorem dX1_has_44 : decode cX1_has 44 = .ok (.iload_n 3, 1) := by decide +kernel
theorem dX1_has_45 : decode cX1_has 45 = .ok (.istore 6, 2) := by decide +kernel
theorem dX1_has_47 : decode cX1_has 47 = .ok (.iload 5, 2) := by decide +kernel
theorem dX1_has_49 : decode cX1_has 49 = .ok (.iload_n 1, 1) := by decide +kernel
theorem dX1_has_50 : decode cX1_has 50 = .ok (.if_icmp .ne 9, 3) := by decide +kernel
theorem dX1_has_53 : decode cX1_has 53 = .ok (.bipush 20, 2) := by decide +kernel
theorem dX1_has_55 : decode cX1_has 55 = .ok (.iload 6, 2) := by decide +kernel
theorem dX1_has_57 : decode cX1_has 57 = .ok (.isub, 1) := by decide +kernel
theorem dX1_has_58 : decode cX1_has 58 = .ok (.ireturn, 1) := by decide +kernel
theorem dX1_has_59 : decode cX1_has 59 = .ok (.iload 5, 2) := by decide +kernel
theorem dX1_has_61 : decode cX1_has 61 = .ok (.iconst 2, 1) := by decide +kernel
theorem dX1_has_62 : decode cX1_has 62 = .ok (.if_icmp .ne 11, 3) := by decide +kernel
theorem dX1_has_65 : decode cX1_has 65 = .ok (.bipush 10, 2) := by decide +kernel
theorem dX1_has_67 : decode cX1_has 67 = .ok (.iload 6, 2) := by decide +kernel
theorem dX1_has_69 : decode cX1_has 69 = .ok (.isub, 1) := by decide +kernel
theorem dX1_has_70 : decode cX1_has 70 = .ok (.goto 6, 3) := by decide +kernel
theorem dX1_has_73 : decode cX1_has 73 = .ok (.iload 6, 2) := by decide +kernel
theorem dX1_has_75 : decode cX1_has 75 = .ok (.ineg, 1) := by decide +kernel
theorem dX1_has_76 : decode cX1_has 76 = .ok (.ireturn, 1) := by decide +kernel
theorem dX2_decisions_0 : decode cX2_decisions 0 = .ok (.aload_n 0, 1) := by decide +kernel
theorem dX2_decisions_1 : decode cX2_decisions 1 = .ok (.aload_n 0, 1) := by decide +kernel
theorem dX2_decisions_2 : decode cX2_decisions 2 = .ok (.invokevirtual 7, 3) := by decide +kernel
theorem dX2_decisions_5 : decode cX2_decisions 5 = .ok (.invokevirtual 13, 3) := by decide +kernel
theorem dX2_decisions_8 : decode cX2_decisions 8 = .ok (.istore_n 3, 1) := by decide +kernel
theorem dX2_decisions_9 : decode cX2_decisions 9 = .ok (.aload_n 0, 1) := by decide +kernel
theorem dX2_decisions_10 : decode cX2_decisions 10 = .ok (.invokevirtual 7, 3) := by decide +kernel
theorem dX2_decisions_13 : decode cX2_decisions 13 = .ok (.iconst 1, 1) := by decide +kernel
theorem dX2_decisions_14 : decode cX2_decisions 14 = .ok (.iload_n 1, 1) := by decide +kernel
theorem dX2_decisions_15 : decode cX2_decisions 15 = .ok (.ishl, 1) := by decide +kernel
theorem dX2_decisions_16 : decode cX2_decisions 16 = .ok (.iconst (-1), 1) := by decide +kernel
theorem dX2_decisions_17 : decode cX2_decisions 17 = .ok (.ixor, 1) := by decide +kernel
theorem dX2_decisions_18 : decode cX2_decisions 18 = .ok (.iand, 1) := by decide +kernel
theorem dX2_decisions_19 : decode cX2_decisions 19 = .ok (.istore 4, 2) := by decide +kernel
theorem dX2_decisions_21 : decode cX2_decisions 21 = .ok (.iconst 0, 1) := by decide +kernel
theorem dX2_decisions_22 : decode cX2_decisions 22 = .ok (.istore 5, 2) := by decide +kernel
theorem dX2_decisions_24 : decode cX2_decisions 24 = .ok (.iconst 0, 1) := by decide +kernel
theorem dX2_decisions_25 : decode cX2_decisions 25 = .ok (.istore 6, 2) := by decide +kernel
theorem dX2_decisions_27 : decode cX2_decisions 27 = .ok (.iload 6, 2) := by decide +kernel
theorem dX2_decisions_29 : decode cX2_decisions 29 = .ok (.iconst 1, 1) := by decide +kernel
theorem dX2_decisions_30 : decode cX2_decisions 30 = .ok (.aload_n 0, 1) := by decide +kernel
theorem dX2_decisions_31 : decode cX2_decisions 31 = .ok (.getfield 17, 3) := by decide +kernel
theorem dX2_decisions_34 : decode cX2_decisions 34 = .ok (.ishl, 1) := by decide +kernel
theorem dX2_decisions_35 : decode cX2_decisions 35 = .ok (.if_icmp .ge 63, 3) := by decide +kernel
theorem dX2_decisions_38 : decode cX2_decisions 38 = .ok (.iload 6, 2) := by decide +kernel
theorem dX2_decisions_40 : decode cX2_decisions 40 = .ok (.iload 4, 2) := by decide +kernel
theorem dX2_decisions_42 : decode cX2_decisions 42 = .ok (.iconst (-1), 1) := by decide +kernel
theorem dX2_decisions_43 : decode cX2_decisions 43 = .ok (.ixor, 1) := by decide +kernel
theorem dX2_decisions_44 : decode cX2_decisions 44 = .ok (.iand, 1) := by decide +kernel
theorem dX2_decisions_45 : decode cX2_decisions 45 = .ok (.ifCond .ne 47, 3) := by decide +kernel
theorem dX2_decisions_48 : decode cX2_decisions 48 = .ok (.aload_n 0, 1) := by decide +kernel
theorem dX2_decisions_49 : decode cX2_decisions 49 = .ok (.iload 6, 2) := by decide +kernel
theorem dX2_decisions_51 : decode cX2_decisions 51 = .ok (.invokevirtual 13, 3) := by decide +kernel
theorem dX2_decisions_54 : decode cX2_decisions 54 = .ok (.aload_n 0, 1) := by decide +kernel
theorem dX2_decisions_55 : decode cX2_decisions 55 = .ok (.getfield 21, 3) := by decide +kernel
theorem dX2_decisions_58 : decode cX2_decisions 58 = .ok (.iload_n 1, 1) := by decide +kernel
theorem dX2_decisions_59 : decode cX2_decisions 59 = .ok (.iaload, 1) := by decide +kernel
theorem dX2_decisions_60 : decode cX2_decisions 60 = .ok (.iload_n 3, 1) := by decide +kernel
theorem dX2_decisions_61 : decode cX2_decisions 61 = .ok (.invokestatic 25, 3) := by decide +kernel
theorem dX2_decisions_64 : decode cX2_decisions 64 = .ok (.ifCond .eq 28, 3) := by decide +kernel
theorem dX2_decisions_67 : decode cX2_decisions 67 = .ok (.iload 5, 2) := by decide +kernel
theorem dX2_decisions_69 : decode cX2_decisions 69 = .ok (.iload_n 2, 1) := by decide +kernel
theorem dX2_decisions_70 : decode cX2_decisions 70 = .ok (.ifCond .eq 18, 3) := by decide +kernel
theorem dX2_decisions_73 : decode cX2_decisions 73 = .ok (.iload 6, 2) := by decide +kernel
theorem dX2_decisions_75 : decode cX2_decisions 75 = .ok (.iload 4, 2) := by decide +kernel
theorem dX2_decisions_77 : decode cX2_decisions 77 = .ok (.iload 6, 2) := by decide +kernel
theorem dX2_decisions_79 : decode cX2_decisions 79 = .ok (.iconst (-1), 1) := by decide +kernel
theorem dX2_decisions_80 : decode cX2_decisions 80 = .ok (.ixor, 1) := by decide +kernel
theorem dX2_decisions_81 : decode cX2_decisions 81 = .ok (.iand, 1) := by decide +kernel
theorem dX2_decisions_82 : decode cX2_decisions 82 = .ok (.invokestatic 31, 3) := by decide +kernel
theorem dX2_decisions_85 : decode cX2_decisions 85 = .ok (.goto 4, 3) := by decide +kernel
theorem dX2_decisions_88 : decode cX2_decisions 88 = .ok (.iconst 1, 1) := by decide +kernel
theorem dX2_decisions_89 : decode cX2_decisions 89 = .ok (.iadd, 1) := by decide +kernel
theorem dX2_decisions_90 : decode cX2_decisions 90 = .ok (.istore 5, 2) := by decide +kernel
theorem dX2_decisions_92 : decode cX2_decisions 92 = .ok (.iinc 6 1, 3) := by decide +kernel
theorem dX2_decisions_95 : decode cX2_decisions 95 = .ok (.goto (-68), 3) := by decide +kernel
theorem dX2_decisions_98 : decode cX2_decisions 98 = .ok (.iload 5, 2) := by decide +kernel
theorem dX2_decisions_100 : decode cX2_decisions 100 = .ok (.ireturn, 1) := by decide +kernel
theorem dX2_decides_0 : decode cX2_decides 0 = .ok (.iconst 2, 1) := by decide +kernel
theorem dX2_decides_1 : decode cX2_decides 1 = .ok (.iload_n 0, 1) := by decide +kernel
theorem dX2_decides_2 : decode cX2_decides 2 = .ok (.imul, 1) := by decide +kernel
theorem dX2_decides_3 : decode cX2_decides 3 = .ok (.iload_n 2, 1) := by decide +kernel
theorem dX2_decides_4 : decode cX2_decides 4 = .ok (.if_icmp .gt 16, 3) := by decide +kernel
theorem dX2_decides_7 : decode cX2_decides 7 = .ok (.iconst 2, 1) := by decide +kernel
theorem dX2_decides_8 : decode cX2_decides 8 = .ok (.iload_n 0, 1) := by decide +kernel
theorem dX2_decides_9 : decode cX2_decides 9 = .ok (.iload_n 1, 1) := by decide +kernel
theorem dX2_decides_10 : decode cX2_decides 10 = .ok (.iadd, 1) := by decide +kernel
theorem dX2_decides_11 : decode cX2_decides 11 = .ok (.imul, 1) := by decide +kernel
theorem dX2_decides_12 : decode cX2_decides 12 = .ok (.iload_n 2, 1) := by decide +kernel
theorem dX2_decides_13 : decode cX2_decides 13 = .ok (.if_icmp .le 7, 3) := by decide +kernel
theorem dX2_decides_16 : decode cX2_decides 16 = .ok (.iconst 1, 1) := by decide +kernel
theorem dX2_decides_17 : decode cX2_decides 17 = .ok (.goto 4, 3) := by decide +kernel
theorem dX2_decides_20 : decode cX2_decides 20 = .ok (.iconst 0, 1) := by decide +kernel
theorem dX2_decides_21 : decode cX2_decides 21 = .ok (.ireturn, 1) := by decide +kernel
theorem dX2_ordersAround_0 : decode cX2_ordersAround 0 = .ok (.iload_n 0, 1) := by decide +kernel
theorem dX2_ordersAround_1 : decode cX2_ordersAround 1 = .ok (.invokestatic 35, 3) := by decide +kernel
theorem dX2_ordersAround_4 : decode cX2_ordersAround 4 = .ok (.invokestatic 40, 3) := by decide +kernel
theorem dX2_ordersAround_7 : decode cX2_ordersAround 7 = .ok (.iload_n 1, 1) := by decide +kernel
theorem dX2_ordersAround_8 : decode cX2_ordersAround 8 = .ok (.invokestatic 35, 3) := by decide +kernel
theorem dX2_ordersAround_11 : decode cX2_ordersAround 11 = .ok (.invokestatic 40, 3) := by decide +kernel
theorem dX2_ordersAround_14 : decode cX2_ordersAround 14 = .ok (.imul, 1) := by decide +kernel
theorem dX2_ordersAround_15 : decode cX2_ordersAround 15 = .ok (.ireturn, 1) := by decide +kernel
theorem dX2_commonDivisor_0 : decode cX2_commonDivisor 0 = .ok (.iconst 0, 1) := by decide +kernel
theorem dX2_commonDivisor_1 : decode cX2_commonDivisor 1 = .ok (.istore_n 2, 1) := by decide +kernel
theorem dX2_commonDivisor_2 : decode cX2_commonDivisor 2 = .ok (.iload_n 2, 1) := by decide +kernel
theorem dX2_commonDivisor_3 : decode cX2_commonDivisor 3 = .ok (.bipush 64, 2) := by decide +kernel
theorem dX2_commonDivisor_5 : decode cX2_commonDivisor 5 = .ok (.if_icmp .ge 21, 3) := by decide +kernel
theorem dX2_commonDivisor_8 : decode cX2_commonDivisor 8 = .ok (.iload_n 1, 1) := by decide +kernel
theorem dX2_commonDivisor_9 : decode cX2_commonDivisor 9 = .ok (.ifCond .le 17, 3) := by decide +kernel
theorem dX2_commonDivisor_12 : decode cX2_commonDivisor 12 = .ok (.iload_n 0, 1) := by decide +kernel
theorem dX2_commonDivisor_13 : decode cX2_commonDivisor 13 = .ok (.iload_n 1, 1) := by decide +kernel
theorem dX2_commonDivisor_14 : decode cX2_commonDivisor 14 = .ok (.irem, 1) := by decide +kernel
theorem dX2_commonDivisor_15 : decode cX2_commonDivisor 15 = .ok (.istore_n 3, 1) := by decide +kernel
theorem dX2_commonDivisor_16 : decode cX2_commonDivisor 16 = .ok (.iload_n 1, 1) := by decide +kernel
theorem dX2_commonDivisor_17 : decode cX2_commonDivisor 17 = .ok (.istore_n 0, 1) := by decide +kernel
theorem dX2_commonDivisor_18 : decode cX2_commonDivisor 18 = .ok (.iload_n 3, 1) := by decide +kernel
theorem dX2_commonDivisor_19 : decode cX2_commonDivisor 19 = .ok (.istore_n 1, 1) := by decide +kernel
theorem dX2_commonDivisor_20 : decode cX2_commonDivisor 20 = .ok (.iinc 2 1, 3) := by decide +kernel
theorem dX2_commonDivisor_23 : decode cX2_commonDivisor 23 = .ok (.goto (-21), 3) := by decide +kernel
theorem dX2_commonDivisor_26 : decode cX2_commonDivisor 26 = .ok (.iload_n 0, 1) := by decide +kernel
theorem dX2_commonDivisor_27 : decode cX2_commonDivisor 27 = .ok (.ireturn, 1) := by decide +kernel
theorem dX3_init_0 : decode cX3_init 0 = .ok (.aload_n 0, 1) := by decide +kernel
theorem dX3_init_1 : decode cX3_init 1 = .ok (.invokespecial 3, 3) := by decide +kernel
theorem dX3_init_4 : decode cX3_init 4 = .ok (.aload_n 0, 1) := by decide +kernel
theorem dX3_init_5 : decode cX3_init 5 = .ok (.bipush 7, 2) := by decide +kernel
theorem dX3_init_7 : decode cX3_init 7 = .ok (.newarray .int, 2) := by decide +kernel
theorem dX3_init_9 : decode cX3_init 9 = .ok (.putfield 9, 3) := by decide +kernel
theorem dX3_init_12 : decode cX3_init 12 = .ok (.aload_n 0, 1) := by decide +kernel
theorem dX3_init_13 : decode cX3_init 13 = .ok (.new 15, 3) := by decide +kernel
theorem dX3_init_16 : decode cX3_init 16 = .ok (.dup, 1) := by decide +kernel
theorem dX3_init_17 : decode cX3_init 17 = .ok (.invokespecial 17, 3) := by decide +kernel
theorem dX3_init_20 : decode cX3_init 20 = .ok (.putfield 18, 3) := by decide +kernel
theorem dX3_init_23 : decode cX3_init 23 = .ok (.aload_n 0, 1) := by decide +kernel
theorem dX3_init_24 : decode cX3_init 24 = .ok (.new 22, 3) := by decide +kernel
theorem dX3_init_27 : decode cX3_init 27 = .ok (.dup, 1) := by decide +kernel
theorem dX3_init_28 : decode cX3_init 28 = .ok (.invokespecial 24, 3) := by decide +kernel
theorem dX3_init_31 : decode cX3_init 31 = .ok (.putfield 25, 3) := by decide +kernel
theorem dX3_init_34 : decode cX3_init 34 = .ok (.aload_n 0, 1) := by decide +kernel
theorem dX3_init_35 : decode cX3_init 35 = .ok (.bipush 7, 2) := by decide +kernel
theorem dX3_init_37 : decode cX3_init 37 = .ok (.newarray .int, 2) := by decide +kernel
theorem dX3_init_39 : decode cX3_init 39 = .ok (.putfield 29, 3) := by decide +kernel
theorem dX3_init_42 : decode cX3_init 42 = .ok (.return_, 1) := by decide +kernel
theorem dX3_find_0 : decode cX3_find 0 = .ok (.aload_n 0, 1) := by decide +kernel
theorem dX3_find_1 : decode cX3_find 1 = .ok (.getfield 32, 3) := by decide +kernel
theorem dX3_find_4 : decode cX3_find 4 = .ok (.ifCond .eq 4, 3) := by decide +kernel
theorem dX3_find_7 : decode cX3_find 7 = .ok (.return_, 1) := by decide +kernel
theorem dX3_find_8 : decode cX3_find 8 = .ok (.aload_n 0, 1) := by decide +kernel
theorem dX3_find_9 : decode cX3_find 9 = .ok (.iconst (-1), 1) := by decide +kernel
theorem dX3_find_10 : decode cX3_find 10 = .ok (.putfield 36, 3) := by decide +kernel
theorem dX3_find_13 : decode cX3_find 13 = .ok (.aload_n 0, 1) := by decide +kernel
theorem dX3_find_14 : decode cX3_find 14 = .ok (.getfield 18, 3) := by decide +kernel
theorem dX3_find_17 : decode cX3_find 17 = .ok (.aload_n 1, 1) := by decide +kernel
theorem dX3_find_18 : decode cX3_find 18 = .ok (.getfield 40, 3) := by decide +kernel
theorem dX3_find_21 : decode cX3_find 21 = .ok (.getfield 46, 3) := by decide +kernel
theorem dX3_find_24 : decode cX3_find 24 = .ok (.invokevirtual 51, 3) := by decide +kernel
theorem dX3_find_27 : decode cX3_find 27 = .ok (.istore_n 2, 1) := by decide +kernel
theorem dX3_find_28 : decode cX3_find 28 = .ok (.iconst 0, 1) := by decide +kernel
theorem dX3_find_29 : decode cX3_find 29 = .ok (.istore_n 3, 1) := by decide +kernel
theorem dX3_find_30 : decode cX3_find 30 = .ok (.iload_n 3, 1) := by decide +kernel
theorem dX3_find_31 : decode cX3_find 31 = .ok (.iload_n 2, 1) := by decide +kernel
theorem dX3_find_32 : decode cX3_find 32 = .ok (.if_icmp .ge 56, 3) := by decide +kernel
theorem dX3_find_35 : decode cX3_find 35 = .ok (.aload_n 0, 1) := by decide +kernel
theorem dX3_find_36 : decode cX3_find 36 = .ok (.aload_n 1, 1) := by decide +kernel
theorem dX3_find_37 : decode cX3_find 37 = .ok (.invokevirtual 55, 3) := by decide +kernel
theorem dX3_find_40 : decode cX3_find 40 = .ok (.istore 4, 2) := by decide +kernel
theorem dX3_find_42 : decode cX3_find 42 = .ok (.iload 4, 2) := by decide +kernel
theorem dX3_find_44 : decode cX3_find 44 = .ok (.aload_n 0, 1) := by decide +kernel
theorem dX3_find_45 : decode cX3_find 45 = .ok (.getfield 36, 3) := by decide +kernel
theorem dX3_find_48 : decode cX3_find 48 = .ok (.if_icmp .le 27, 3) := by decide +kernel
theorem dX3_find_51 : decode cX3_find 51 = .ok (.aload_n 0, 1) := by decide +kernel
theorem dX3_find_52 : decode cX3_find 52 = .ok (.iload 4, 2) := by decide +kernel
theorem dX3_find_54 : decode cX3_find 54 = .ok (.putfield 36, 3) := by decide +kernel
theorem dX3_find_57 : decode cX3_find 57 = .ok (.aload_n 0, 1) := by decide +kernel
theorem dX3_find_58 : decode cX3_find 58 = .ok (.getfield 18, 3) := by decide +kernel
theorem dX3_find_61 : decode cX3_find 61 = .ok (.getfield 59, 3) := by decide +kernel
theorem dX3_find_64 : decode cX3_find 64 = .ok (.iconst 0, 1) := by decide +kernel
theorem dX3_find_65 : decode cX3_find 65 = .ok (.aload_n 0, 1) := by decide +kernel
theorem dX3_find_66 : decode cX3_find 66 = .ok (.getfield 9, 3) := by decide +kernel
theorem dX3_find_69 : decode cX3_find 69 = .ok (.iconst 0, 1) := by decide +kernel
theorem dX3_find_70 : decode cX3_find 70 = .ok (.bipush 7, 2) := by decide +kernel
theorem dX3_find_72 : decode cX3_find 72 = .ok (.invokestatic 60, 3) := by decide +kernel
theorem dX3_find_75 : decode cX3_find 75 = .ok (.aload_n 0, 1) := by decide +kernel
theorem dX3_find_76 : decode cX3_find 76 = .ok (.getfield 18, 3) := by decide +kernel
theorem dX3_find_79 : decode cX3_find 79 = .ok (.invokevirtual 66, 3) := by decide +kernel
theorem dX3_find_82 : decode cX3_find 82 = .ok (.iinc 3 1, 3) := by decide +kernel
theorem dX3_find_85 : decode cX3_find 85 = .ok (.goto (-55), 3) := by decide +kernel
theorem dX3_find_88 : decode cX3_find 88 = .ok (.aload_n 0, 1) := by decide +kernel
theorem dX3_find_89 : decode cX3_find 89 = .ok (.iconst 1, 1) := by decide +kernel
theorem dX3_find_90 : decode cX3_find 90 = .ok (.putfield 32, 3) := by decide +kernel
theorem dX3_find_93 : decode cX3_find 93 = .ok (.return_, 1) := by decide +kernel
theorem dX3_worthsOf_0 : decode cX3_worthsOf 0 = .ok (.aload_n 1, 1) := by decide +kernel
theorem dX3_worthsOf_1 : decode cX3_worthsOf 1 = .ok (.getfield 40, 3) := by decide +kernel
theorem dX3_worthsOf_4 : decode cX3_worthsOf 4 = .ok (.astore_n 2, 1) := by decide +kernel
theorem dX3_worthsOf_5 : decode cX3_worthsOf 5 = .ok (.aload_n 0, 1) := by decide +kernel
theorem dX3_worthsOf_6 : decode cX3_worthsOf 6 = .ok (.invokevirtual 69, 3) := by decide +kernel
theorem dX3_worthsOf_9 : decode cX3_worthsOf 9 = .ok (.iconst 0, 1) := by decide +kernel
theorem dX3_worthsOf_10 : decode cX3_worthsOf 10 = .ok (.istore_n 3, 1) := by decide +kernel
theorem dX3_worthsOf_11 : decode cX3_worthsOf 11 = .ok (.iconst 0, 1) := by decide +kernel
theorem dX3_worthsOf_12 : decode cX3_worthsOf 12 = .ok (.istore 4, 2) := by decide +kernel
theorem dX3_worthsOf_14 : decode cX3_worthsOf 14 = .ok (.iload 4, 2) := by decide +kernel
theorem dX3_worthsOf_16 : decode cX3_worthsOf 16 = .ok (.aload_n 0, 1) := by decide +kernel
theorem dX3_worthsOf_17 : decode cX3_worthsOf 17 = .ok (.getfield 18, 3) := by decide +kernel
theorem dX3_worthsOf_20 : decode cX3_worthsOf 20 = .ok (.getfield 72, 3) := by decide +kernel
theorem dX3_worthsOf_23 : decode cX3_worthsOf 23 = .ok (.if_icmp .ge 138, 3) := by decide +kernel
theorem dX3_worthsOf_26 : decode cX3_worthsOf 26 = .ok (.aload_n 0, 1) := by decide +kernel
theorem dX3_worthsOf_27 : decode cX3_worthsOf 27 = .ok (.getfield 18, 3) := by decide +kernel
theorem dX3_worthsOf_30 : decode cX3_worthsOf 30 = .ok (.getfield 59, 3) := by decide +kernel
theorem dX3_worthsOf_33 : decode cX3_worthsOf 33 = .ok (.iload 4, 2) := by decide +kernel
theorem dX3_worthsOf_35 : decode cX3_worthsOf 35 = .ok (.iaload, 1) := by decide +kernel
theorem dX3_worthsOf_36 : decode cX3_worthsOf 36 = .ok (.istore 5, 2) := by decide +kernel
theorem dX3_worthsOf_38 : decode cX3_worthsOf 38 = .ok (.iload 5, 2) := by decide +kernel
theorem dX3_worthsOf_40 : decode cX3_worthsOf 40 = .ok (.ifCond .lt 115, 3) := by decide +kernel
theorem dX3_worthsOf_43 : decode cX3_worthsOf 43 = .ok (.iload 5, 2) := by decide +kernel
theorem dX3_worthsOf_45 : decode cX3_worthsOf 45 = .ok (.aload_n 2, 1) := by decide +kernel
theorem dX3_worthsOf_46 : decode cX3_worthsOf 46 = .ok (.getfield 46, 3) := by decide +kernel
theorem dX3_worthsOf_49 : decode cX3_worthsOf 49 = .ok (.if_icmp .lt 6, 3) := by decide +kernel
theorem dX3_worthsOf_52 : decode cX3_worthsOf 52 = .ok (.goto 103, 3) := by decide +kernel
theorem dX3_worthsOf_55 : decode cX3_worthsOf 55 = .ok (.aload_n 2, 1) := by decide +kernel
theorem dX3_worthsOf_56 : decode cX3_worthsOf 56 = .ok (.getfield 73, 3) := by decide +kernel
theorem dX3_worthsOf_59 : decode cX3_worthsOf 59 = .ok (.iload 5, 2) := by decide +kernel
theorem dX3_worthsOf_61 : decode cX3_worthsOf 61 = .ok (.iaload, 1) := by decide +kernel
theorem dX3_worthsOf_62 : decode cX3_worthsOf 62 = .ok (.istore 6, 2) := by decide +kernel
theorem dX3_worthsOf_64 : decode cX3_worthsOf 64 = .ok (.aload_n 2, 1) := by decide +kernel
theorem dX3_worthsOf_65 : decode cX3_worthsOf 65 = .ok (.getfield 76, 3) := by decide +kernel
theorem dX3_worthsOf_68 : decode cX3_worthsOf 68 = .ok (.iload 5, 2) := by decide +kernel
theorem dX3_worthsOf_70 : decode cX3_worthsOf 70 = .ok (.iaload, 1) := by decide +kernel
theorem dX3_worthsOf_71 : decode cX3_worthsOf 71 = .ok (.istore 7, 2) := by decide +kernel
theorem dX3_worthsOf_73 : decode cX3_worthsOf 73 = .ok (.aload_n 0, 1) := by decide +kernel
theorem dX3_worthsOf_74 : decode cX3_worthsOf 74 = .ok (.getfield 25, 3) := by decide +kernel
theorem dX3_worthsOf_77 : decode cX3_worthsOf 77 = .ok (.aload_n 1, 1) := by decide +kernel
theorem dX3_worthsOf_78 : decode cX3_worthsOf 78 = .ok (.getfield 79, 3) := by decide +kernel
theorem dX3_worthsOf_81 : decode cX3_worthsOf 81 = .ok (.iload 6, 2) := by decide +kernel
theorem dX3_worthsOf_83 : decode cX3_worthsOf 83 = .ok (.iload 7, 2) := by decide +kernel
theorem dX3_worthsOf_85 : decode cX3_worthsOf 85 = .ok (.isub, 1) := by decide +kernel
theorem dX3_worthsOf_86 : decode cX3_worthsOf 86 = .ok (.iconst 0, 1) := by decide +kernel
theorem dX3_worthsOf_87 : decode cX3_worthsOf 87 = .ok (.aload_n 0, 1) := by decide +kernel
theorem dX3_worthsOf_88 : decode cX3_worthsOf 88 = .ok (.getfield 83, 3) := by decide +kernel
theorem dX3_worthsOf_91 : decode cX3_worthsOf 91 = .ok (.invokevirtual 86, 3) := by decide +kernel
theorem dX3_worthsOf_94 : decode cX3_worthsOf 94 = .ok (.aload_n 0, 1) := by decide +kernel
theorem dX3_worthsOf_95 : decode cX3_worthsOf 95 = .ok (.getfield 25, 3) := by decide +kernel
theorem dX3_worthsOf_98 : decode cX3_worthsOf 98 = .ok (.invokevirtual 90, 3) := by decide +kernel
theorem dX3_worthsOf_101 : decode cX3_worthsOf 101 = .ok (.ifCond .ne 13, 3) := by decide +kernel
theorem dX3_worthsOf_104 : decode cX3_worthsOf 104 = .ok (.iload_n 3, 1) := by decide +kernel
theorem dX3_worthsOf_105 : decode cX3_worthsOf 105 = .ok (.aload_n 2, 1) := by decide +kernel
theorem dX3_worthsOf_106 : decode cX3_worthsOf 106 = .ok (.getfield 94, 3) := by decide +kernel
theorem dX3_worthsOf_109 : decode cX3_worthsOf 109 = .ok (.iload 5, 2) := by decide +kernel
theorem dX3_worthsOf_111 : decode cX3_worthsOf 111 = .ok (.iaload, 1) := by decide +kernel
theorem dX3_worthsOf_112 : decode cX3_worthsOf 112 = .ok (.iadd, 1) := by decide +kernel
theorem dX3_worthsOf_113 : decode cX3_worthsOf 113 = .ok (.istore_n 3, 1) := by decide +kernel
theorem dX3_worthsOf_114 : decode cX3_worthsOf 114 = .ok (.aload_n 0, 1) := by decide +kernel
theorem dX3_worthsOf_115 : decode cX3_worthsOf 115 = .ok (.iload 6, 2) := by decide +kernel
theorem dX3_worthsOf_117 : decode cX3_worthsOf 117 = .ok (.ifCond .le 13, 3) := by decide +kernel
theorem dX3_worthsOf_120 : decode cX3_worthsOf 120 = .ok (.aload_n 0, 1) := by decide +kernel
theorem dX3_worthsOf_121 : decode cX3_worthsOf 121 = .ok (.getfield 25, 3) := by decide +kernel
theorem dX3_worthsOf_124 : decode cX3_worthsOf 124 = .ok (.getfield 97, 3) := by decide +kernel
theorem dX3_worthsOf_127 : decode cX3_worthsOf 127 = .ok (.goto 4, 3) := by decide +kernel
theorem dX3_worthsOf_130 : decode cX3_worthsOf 130 = .ok (.iconst 0, 1) := by decide +kernel
theorem dX3_worthsOf_131 : decode cX3_worthsOf 131 = .ok (.iload 7, 2) := by decide +kernel
theorem dX3_worthsOf_133 : decode cX3_worthsOf 133 = .ok (.ifCond .le 13, 3) := by decide +kernel
theorem dX3_worthsOf_136 : decode cX3_worthsOf 136 = .ok (.aload_n 0, 1) := by decide +kernel
theorem dX3_worthsOf_137 : decode cX3_worthsOf 137 = .ok (.getfield 25, 3) := by decide +kernel
theorem dX3_worthsOf_140 : decode cX3_worthsOf 140 = .ok (.getfield 100, 3) := by decide +kernel
theorem dX3_worthsOf_143 : decode cX3_worthsOf 143 = .ok (.goto 4, 3) := by decide +kernel
theorem dX3_worthsOf_146 : decode cX3_worthsOf 146 = .ok (.iconst 0, 1) := by decide +kernel
theorem dX3_worthsOf_147 : decode cX3_worthsOf 147 = .ok (.ior, 1) := by decide +kernel
theorem dX3_worthsOf_148 : decode cX3_worthsOf 148 = .ok (.aload_n 1, 1) := by decide +kernel
theorem dX3_worthsOf_149 : decode cX3_worthsOf 149 = .ok (.getfield 103, 3) := by decide +kernel
theorem dX3_worthsOf_152 : decode cX3_worthsOf 152 = .ok (.invokevirtual 106, 3) := by decide +kernel
theorem dX3_worthsOf_155 : decode cX3_worthsOf 155 = .ok (.iinc 4 1, 3) := by decide +kernel
theorem dX3_worthsOf_158 : decode cX3_worthsOf 158 = .ok (.goto (-144), 3) := by decide +kernel
theorem dX3_worthsOf_161 : decode cX3_worthsOf 161 = .ok (.iload_n 3, 1) := by decide +kernel
theorem dX3_worthsOf_162 : decode cX3_worthsOf 162 = .ok (.ireturn, 1) := by decide +kernel
theorem dX3_beHungry_0 : decode cX3_beHungry 0 = .ok (.aload_n 0, 1) := by decide +kernel
theorem dX3_beHungry_1 : decode cX3_beHungry 1 = .ok (.iconst 0, 1) := by decide +kernel
theorem dX3_beHungry_2 : decode cX3_beHungry 2 = .ok (.putfield 83, 3) := by decide +kernel
theorem dX3_beHungry_5 : decode cX3_beHungry 5 = .ok (.iconst 0, 1) := by decide +kernel
theorem dX3_beHungry_6 : decode cX3_beHungry 6 = .ok (.istore_n 1, 1) := by decide +kernel
theorem dX3_beHungry_7 : decode cX3_beHungry 7 = .ok (.iload_n 1, 1) := by decide +kernel
theorem dX3_beHungry_8 : decode cX3_beHungry 8 = .ok (.bipush 7, 2) := by decide +kernel
theorem dX3_beHungry_10 : decode cX3_beHungry 10 = .ok (.if_icmp .ge 16, 3) := by decide +kernel
theorem dX3_beHungry_13 : decode cX3_beHungry 13 = .ok (.aload_n 0, 1) := by decide +kernel
theorem dX3_beHungry_14 : decode cX3_beHungry 14 = .ok (.getfield 29, 3) := by decide +kernel
theorem dX3_beHungry_17 : decode cX3_beHungry 17 = .ok (.iload_n 1, 1) := by decide +kernel
theorem dX3_beHungry_18 : decode cX3_beHungry 18 = .ok (.iconst 0, 1) := by decide +kernel
theorem dX3_beHungry_19 : decode cX3_beHungry 19 = .ok (.iastore, 1) := by decide +kernel
theorem dX3_beHungry_20 : decode cX3_beHungry 20 = .ok (.iinc 1 1, 3) := by decide +kernel
theorem dX3_beHungry_23 : decode cX3_beHungry 23 = .ok (.goto (-16), 3) := by decide +kernel
theorem dX3_beHungry_26 : decode cX3_beHungry 26 = .ok (.return_, 1) := by decide +kernel
theorem dX3_feed_0 : decode cX3_feed 0 = .ok (.iconst 0, 1) := by decide +kernel
theorem dX3_feed_1 : decode cX3_feed 1 = .ok (.istore_n 3, 1) := by decide +kernel
theorem dX3_feed_2 : decode cX3_feed 2 = .ok (.iload_n 3, 1) := by decide +kernel
theorem dX3_feed_3 : decode cX3_feed 3 = .ok (.bipush 7, 2) := by decide +kernel
theorem dX3_feed_5 : decode cX3_feed 5 = .ok (.if_icmp .ge 45, 3) := by decide +kernel
theorem dX3_feed_8 : decode cX3_feed 8 = .ok (.aload_n 0, 1) := by decide +kernel
theorem dX3_feed_9 : decode cX3_feed 9 = .ok (.getfield 29, 3) := by decide +kernel
theorem dX3_feed_12 : decode cX3_feed 12 = .ok (.iload_n 3, 1) := by decide +kernel
theorem dX3_feed_13 : decode cX3_feed 13 = .ok (.dup2, 1) := by decide +kernel
theorem dX3_feed_14 : decode cX3_feed 14 = .ok (.iaload, 1) := by decide +kernel
theorem dX3_feed_15 : decode cX3_feed 15 = .ok (.iload_n 1, 1) := by decide +kernel
theorem dX3_feed_16 : decode cX3_feed 16 = .ok (.iload_n 3, 1) := by decide +kernel
theorem dX3_feed_17 : decode cX3_feed 17 = .ok (.ishr, 1) := by decide +kernel
theorem dX3_feed_18 : decode cX3_feed 18 = .ok (.iconst 1, 1) := by decide +kernel
theorem dX3_feed_19 : decode cX3_feed 19 = .ok (.iand, 1) := by decide +kernel
theorem dX3_feed_20 : decode cX3_feed 20 = .ok (.iadd, 1) := by decide +kernel
theorem dX3_feed_21 : decode cX3_feed 21 = .ok (.iastore, 1) := by decide +kernel
theorem dX3_feed_22 : decode cX3_feed 22 = .ok (.aload_n 0, 1) := by decide +kernel
theorem dX3_feed_23 : decode cX3_feed 23 = .ok (.getfield 29, 3) := by decide +kernel
theorem dX3_feed_26 : decode cX3_feed 26 = .ok (.iload_n 3, 1) := by decide +kernel
theorem dX3_feed_27 : decode cX3_feed 27 = .ok (.iaload, 1) := by decide +kernel
theorem dX3_feed_28 : decode cX3_feed 28 = .ok (.iload_n 2, 1) := by decide +kernel
theorem dX3_feed_29 : decode cX3_feed 29 = .ok (.if_icmp .lt 15, 3) := by decide +kernel
theorem dX3_feed_32 : decode cX3_feed 32 = .ok (.aload_n 0, 1) := by decide +kernel
theorem dX3_feed_33 : decode cX3_feed 33 = .ok (.dup, 1) := by decide +kernel
theorem dX3_feed_34 : decode cX3_feed 34 = .ok (.getfield 83, 3) := by decide +kernel
theorem dX3_feed_37 : decode cX3_feed 37 = .ok (.iconst 1, 1) := by decide +kernel
theorem dX3_feed_38 : decode cX3_feed 38 = .ok (.iload_n 3, 1) := by decide +kernel
theorem dX3_feed_39 : decode cX3_feed 39 = .ok (.ishl, 1) := by decide +kernel
theorem dX3_feed_40 : decode cX3_feed 40 = .ok (.ior, 1) := by decide +kernel
theorem dX3_feed_41 : decode cX3_feed 41 = .ok (.putfield 83, 3) := by decide +kernel
theorem dX3_feed_44 : decode cX3_feed 44 = .ok (.iinc 3 1, 3) := by decide +kernel
theorem dX3_feed_47 : decode cX3_feed 47 = .ok (.goto (-45), 3) := by decide +kernel
theorem dX3_feed_50 : decode cX3_feed 50 = .ok (.return_, 1) := by decide +kernel
theorem dX4_init_0 : decode cX4_init 0 = .ok (.aload_n 0, 1) := by decide +kernel
theorem dX4_init_1 : decode cX4_init 1 = .ok (.invokespecial 3, 3) := by decide +kernel
theorem dX4_init_4 : decode cX4_init 4 = .ok (.aload_n 0, 1) := by decide +kernel
theorem dX4_init_5 : decode cX4_init 5 = .ok (.bipush 7, 2) := by decide +kernel
theorem dX4_init_7 : decode cX4_init 7 = .ok (.newarray .int, 2) := by decide +kernel
theorem dX4_init_9 : decode cX4_init 9 = .ok (.putfield 9, 3) := by decide +kernel
theorem dX4_init_12 : decode cX4_init 12 = .ok (.aload_n 0, 1) := by decide +kernel
theorem dX4_init_13 : decode cX4_init 13 = .ok (.new 15, 3) := by decide +kernel
theorem dX4_init_16 : decode cX4_init 16 = .ok (.dup, 1) := by decide +kernel
theorem dX4_init_17 : decode cX4_init 17 = .ok (.invokespecial 17, 3) := by decide +kernel
theorem dX4_init_20 : decode cX4_init 20 = .ok (.putfield 18, 3) := by decide +kernel
theorem dX4_init_23 : decode cX4_init 23 = .ok (.aload_n 0, 1) := by decide +kernel
theorem dX4_init_24 : decode cX4_init 24 = .ok (.new 22, 3) := by decide +kernel
theorem dX4_init_27 : decode cX4_init 27 = .ok (.dup, 1) := by decide +kernel
theorem dX4_init_28 : decode cX4_init 28 = .ok (.invokespecial 24, 3) := by decide +kernel
theorem dX4_init_31 : decode cX4_init 31 = .ok (.putfield 25, 3) := by decide +kernel
theorem dX4_init_34 : decode cX4_init 34 = .ok (.return_, 1) := by decide +kernel
theorem dX4_find_0 : decode cX4_find 0 = .ok (.aload_n 0, 1) := by decide +kernel
theorem dX4_find_1 : decode cX4_find 1 = .ok (.getfield 29, 3) := by decide +kernel
theorem dX4_find_4 : decode cX4_find 4 = .ok (.ifCond .eq 12, 3) := by decide +kernel
theorem dX4_find_7 : decode cX4_find 7 = .ok (.aload_n 0, 1) := by decide +kernel
theorem dX4_find_8 : decode cX4_find 8 = .ok (.getfield 33, 3) := by decide +kernel
theorem dX4_find_11 : decode cX4_find 11 = .ok (.iload_n 2, 1) := by decide +kernel
theorem dX4_find_12 : decode cX4_find 12 = .ok (.if_icmp .ne 4, 3) := by decide +kernel
theorem dX4_find_15 : decode cX4_find 15 = .ok (.return_, 1) := by decide +kernel
theorem dX4_find_16 : decode cX4_find 16 = .ok (.aload_n 0, 1) := by decide +kernel
theorem dX4_find_17 : decode cX4_find 17 = .ok (.iconst (-1), 1) := by decide +kernel
theorem dX4_find_18 : decode cX4_find 18 = .ok (.putfield 37, 3) := by decide +kernel
theorem dX4_find_21 : decode cX4_find 21 = .ok (.aload_n 1, 1) := by decide +kernel
theorem dX4_find_22 : decode cX4_find 22 = .ok (.aload_n 1, 1) := by decide +kernel
theorem dX4_find_23 : decode cX4_find 23 = .ok (.invokevirtual 40, 3) := by decide +kernel
theorem dX4_find_26 : decode cX4_find 26 = .ok (.invokevirtual 46, 3) := by decide +kernel
theorem dX4_find_29 : decode cX4_find 29 = .ok (.istore_n 3, 1) := by decide +kernel
theorem dX4_find_30 : decode cX4_find 30 = .ok (.aload_n 0, 1) := by decide +kernel
theorem dX4_find_31 : decode cX4_find 31 = .ok (.getfield 18, 3) := by decide +kernel
theorem dX4_find_34 : decode cX4_find 34 = .ok (.aload_n 1, 1) := by decide +kernel
theorem dX4_find_35 : decode cX4_find 35 = .ok (.getfield 50, 3) := by decide +kernel
theorem dX4_find_38 : decode cX4_find 38 = .ok (.invokevirtual 53, 3) := by decide +kernel
theorem dX4_find_41 : decode cX4_find 41 = .ok (.istore 4, 2) := by decide +kernel
theorem dX4_find_43 : decode cX4_find 43 = .ok (.iconst 0, 1) := by decide +kernel
theorem dX4_find_44 : decode cX4_find 44 = .ok (.istore 5, 2) := by decide +kernel
theorem dX4_find_46 : decode cX4_find 46 = .ok (.iload 5, 2) := by decide +kernel
theorem dX4_find_48 : decode cX4_find 48 = .ok (.iload 4, 2) := by decide +kernel
theorem dX4_find_50 : decode cX4_find 50 = .ok (.if_icmp .ge 30, 3) := by decide +kernel
theorem dX4_find_53 : decode cX4_find 53 = .ok (.aload_n 0, 1) := by decide +kernel
theorem dX4_find_54 : decode cX4_find 54 = .ok (.getfield 37, 3) := by decide +kernel
theorem dX4_find_57 : decode cX4_find 57 = .ok (.iload_n 3, 1) := by decide +kernel
theorem dX4_find_58 : decode cX4_find 58 = .ok (.if_icmp .ge 22, 3) := by decide +kernel
theorem dX4_find_61 : decode cX4_find 61 = .ok (.aload_n 0, 1) := by decide +kernel
theorem dX4_find_62 : decode cX4_find 62 = .ok (.aload_n 1, 1) := by decide +kernel
theorem dX4_find_63 : decode cX4_find 63 = .ok (.iload_n 2, 1) := by decide +kernel
theorem dX4_find_64 : decode cX4_find 64 = .ok (.invokevirtual 56, 3) := by decide +kernel
theorem dX4_find_67 : decode cX4_find 67 = .ok (.aload_n 0, 1) := by decide +kernel
theorem dX4_find_68 : decode cX4_find 68 = .ok (.getfield 18, 3) := by decide +kernel
theorem dX4_find_71 : decode cX4_find 71 = .ok (.invokevirtual 60, 3) := by decide +kernel
theorem dX4_find_74 : decode cX4_find 74 = .ok (.iinc 5 1, 3) := by decide +kernel
theorem dX4_find_77 : decode cX4_find 77 = .ok (.goto (-31), 3) := by decide +kernel
theorem dX4_find_80 : decode cX4_find 80 = .ok (.aload_n 0, 1) := by decide +kernel
theorem dX4_find_81 : decode cX4_find 81 = .ok (.iconst 1, 1) := by decide +kernel
theorem dX4_find_82 : decode cX4_find 82 = .ok (.putfield 29, 3) := by decide +kernel
theorem dX4_find_85 : decode cX4_find 85 = .ok (.aload_n 0, 1) := by decide +kernel
theorem dX4_find_86 : decode cX4_find 86 = .ok (.iload_n 2, 1) := by decide +kernel
theorem dX4_find_87 : decode cX4_find 87 = .ok (.putfield 33, 3) := by decide +kernel
theorem dX4_find_90 : decode cX4_find 90 = .ok (.return_, 1) := by decide +kernel
theorem dX4_keepIfMore_0 : decode cX4_keepIfMore 0 = .ok (.aload_n 0, 1) := by decide +kernel
theorem dX4_keepIfMore_1 : decode cX4_keepIfMore 1 = .ok (.getfield 25, 3) := by decide +kernel
theorem dX4_keepIfMore_4 : decode cX4_keepIfMore 4 = .ok (.invokevirtual 63, 3) := by decide +kernel
theorem dX4_keepIfMore_7 : decode cX4_keepIfMore 7 = .ok (.iconst 0, 1) := by decide +kernel
theorem dX4_keepIfMore_8 : decode cX4_keepIfMore 8 = .ok (.istore_n 3, 1) := by decide +kernel
theorem dX4_keepIfMore_9 : decode cX4_keepIfMore 9 = .ok (.iload_n 3, 1) := by decide +kernel
theorem dX4_keepIfMore_10 : decode cX4_keepIfMore 10 = .ok (.aload_n 0, 1) := by decide +kernel
theorem dX4_keepIfMore_11 : decode cX4_keepIfMore 11 = .ok (.getfield 18, 3) := by decide +kernel
theorem dX4_keepIfMore_14 : decode cX4_keepIfMore 14 = .ok (.getfield 66, 3) := by decide +kernel
theorem dX4_keepIfMore_17 : decode cX4_keepIfMore 17 = .ok (.if_icmp .ge 27, 3) := by decide +kernel
theorem dX4_keepIfMore_20 : decode cX4_keepIfMore 20 = .ok (.aload_n 0, 1) := by decide +kernel
theorem dX4_keepIfMore_21 : decode cX4_keepIfMore 21 = .ok (.getfield 25, 3) := by decide +kernel
theorem dX4_keepIfMore_24 : decode cX4_keepIfMore 24 = .ok (.aload_n 1, 1) := by decide +kernel
theorem dX4_keepIfMore_25 : decode cX4_keepIfMore 25 = .ok (.aload_n 0, 1) := by decide +kernel
theorem dX4_keepIfMore_26 : decode cX4_keepIfMore 26 = .ok (.getfield 18, 3) := by decide +kernel
theorem dX4_keepIfMore_29 : decode cX4_keepIfMore 29 = .ok (.getfield 69, 3) := by decide +kernel
theorem dX4_keepIfMore_32 : decode cX4_keepIfMore 32 = .ok (.iload_n 3, 1) := by decide +kernel
theorem dX4_keepIfMore_33 : decode cX4_keepIfMore 33 = .ok (.iaload, 1) := by decide +kernel
theorem dX4_keepIfMore_34 : decode cX4_keepIfMore 34 = .ok (.iload_n 2, 1) := by decide +kernel
theorem dX4_keepIfMore_35 : decode cX4_keepIfMore 35 = .ok (.invokevirtual 70, 3) := by decide +kernel
theorem dX4_keepIfMore_38 : decode cX4_keepIfMore 38 = .ok (.iinc 3 1, 3) := by decide +kernel
theorem dX4_keepIfMore_41 : decode cX4_keepIfMore 41 = .ok (.goto (-32), 3) := by decide +kernel
theorem dX4_keepIfMore_44 : decode cX4_keepIfMore 44 = .ok (.aload_n 0, 1) := by decide +kernel
theorem dX4_keepIfMore_45 : decode cX4_keepIfMore 45 = .ok (.getfield 25, 3) := by decide +kernel
theorem dX4_keepIfMore_48 : decode cX4_keepIfMore 48 = .ok (.getfield 74, 3) := by decide +kernel
theorem dX4_keepIfMore_51 : decode cX4_keepIfMore 51 = .ok (.aload_n 0, 1) := by decide +kernel
theorem dX4_keepIfMore_52 : decode cX4_keepIfMore 52 = .ok (.getfield 37, 3) := by decide +kernel
theorem dX4_keepIfMore_55 : decode cX4_keepIfMore 55 = .ok (.if_icmp .le 32, 3) := by decide +kernel
theorem dX4_keepIfMore_58 : decode cX4_keepIfMore 58 = .ok (.aload_n 0, 1) := by decide +kernel
theorem dX4_keepIfMore_59 : decode cX4_keepIfMore 59 = .ok (.aload_n 0, 1) := by decide +kernel
theorem dX4_keepIfMore_60 : decode cX4_keepIfMore 60 = .ok (.getfield 25, 3) := by decide +kernel
theorem dX4_keepIfMore_63 : decode cX4_keepIfMore 63 = .ok (.getfield 74, 3) := by decide +kernel
theorem dX4_keepIfMore_66 : decode cX4_keepIfMore 66 = .ok (.putfield 37, 3) := by decide +kernel
theorem dX4_keepIfMore_69 : decode cX4_keepIfMore 69 = .ok (.aload_n 0, 1) := by decide +kernel
theorem dX4_keepIfMore_70 : decode cX4_keepIfMore 70 = .ok (.getfield 18, 3) := by decide +kernel
theorem dX4_keepIfMore_73 : decode cX4_keepIfMore 73 = .ok (.getfield 69, 3) := by decide +kernel
theorem dX4_keepIfMore_76 : decode cX4_keepIfMore 76 = .ok (.iconst 0, 1) := by decide +kernel
theorem dX4_keepIfMore_77 : decode cX4_keepIfMore 77 = .ok (.aload_n 0, 1) := by decide +kernel
theorem dX4_keepIfMore_78 : decode cX4_keepIfMore 78 = .ok (.getfield 9, 3) := by decide +kernel
theorem dX4_keepIfMore_81 : decode cX4_keepIfMore 81 = .ok (.iconst 0, 1) := by decide +kernel
theorem dX4_keepIfMore_82 : decode cX4_keepIfMore 82 = .ok (.bipush 7, 2) := by decide +kernel
theorem dX4_keepIfMore_84 : decode cX4_keepIfMore 84 = .ok (.invokestatic 77, 3) := by decide +kernel
theorem dX4_keepIfMore_87 : decode cX4_keepIfMore 87 = .ok (.return_, 1) := by decide +kernel
theorem dX5_init_0 : decode cX5_init 0 = .ok (.aload_n 0, 1) := by decide +kernel
theorem dX5_init_1 : decode cX5_init 1 = .ok (.invokespecial 3, 3) := by decide +kernel
theorem dX5_init_4 : decode cX5_init 4 = .ok (.aload_n 0, 1) := by decide +kernel
theorem dX5_init_5 : decode cX5_init 5 = .ok (.bipush 7, 2) := by decide +kernel
theorem dX5_init_7 : decode cX5_init 7 = .ok (.newarray .int, 2) := by decide +kernel
theorem dX5_init_9 : decode cX5_init 9 = .ok (.putfield 9, 3) := by decide +kernel
theorem dX5_init_12 : decode cX5_init 12 = .ok (.aload_n 0, 1) := by decide +kernel
theorem dX5_init_13 : decode cX5_init 13 = .ok (.bipush 7, 2) := by decide +kernel
theorem dX5_init_15 : decode cX5_init 15 = .ok (.newarray .int, 2) := by decide +kernel
theorem dX5_init_17 : decode cX5_init 17 = .ok (.putfield 15, 3) := by decide +kernel
theorem dX5_init_20 : decode cX5_init 20 = .ok (.aload_n 0, 1) := by decide +kernel
theorem dX5_init_21 : decode cX5_init 21 = .ok (.bipush 7, 2) := by decide +kernel
theorem dX5_init_23 : decode cX5_init 23 = .ok (.newarray .int, 2) := by decide +kernel
theorem dX5_init_25 : decode cX5_init 25 = .ok (.putfield 18, 3) := by decide +kernel
theorem dX5_init_28 : decode cX5_init 28 = .ok (.aload_n 0, 1) := by decide +kernel
theorem dX5_init_29 : decode cX5_init 29 = .ok (.bipush 7, 2) := by decide +kernel
theorem dX5_init_31 : decode cX5_init 31 = .ok (.newarray .int, 2) := by decide +kernel
theorem dX5_init_33 : decode cX5_init 33 = .ok (.putfield 21, 3) := by decide +kernel
theorem dX5_init_36 : decode cX5_init 36 = .ok (.aload_n 0, 1) := by decide +kernel
theorem dX5_init_37 : decode cX5_init 37 = .ok (.new 24, 3) := by decide +kernel
theorem dX5_init_40 : decode cX5_init 40 = .ok (.dup, 1) := by decide +kernel
theorem dX5_init_41 : decode cX5_init 41 = .ok (.invokespecial 26, 3) := by decide +kernel
theorem dX5_init_44 : decode cX5_init 44 = .ok (.putfield 27, 3) := by decide +kernel
theorem dX5_init_47 : decode cX5_init 47 = .ok (.aload_n 0, 1) := by decide +kernel
theorem dX5_init_48 : decode cX5_init 48 = .ok (.new 31, 3) := by decide +kernel
theorem dX5_init_51 : decode cX5_init 51 = .ok (.dup, 1) := by decide +kernel
theorem dX5_init_52 : decode cX5_init 52 = .ok (.invokespecial 33, 3) := by decide +kernel
theorem dX5_init_55 : decode cX5_init 55 = .ok (.putfield 34, 3) := by decide +kernel
theorem dX5_init_58 : decode cX5_init 58 = .ok (.return_, 1) := by decide +kernel
theorem dX5_find_0 : decode cX5_find 0 = .ok (.aload_n 0, 1) := by decide +kernel
theorem dX5_find_1 : decode cX5_find 1 = .ok (.getfield 38, 3) := by decide +kernel
theorem dX5_find_4 : decode cX5_find 4 = .ok (.ifCond .eq 4, 3) := by decide +kernel
theorem dX5_find_7 : decode cX5_find 7 = .ok (.return_, 1) := by decide +kernel
theorem dX5_find_8 : decode cX5_find 8 = .ok (.aload_n 0, 1) := by decide +kernel
theorem dX5_find_9 : decode cX5_find 9 = .ok (.getfield 27, 3) := by decide +kernel
theorem dX5_find_12 : decode cX5_find 12 = .ok (.aload_n 1, 1) := by decide +kernel
theorem dX5_find_13 : decode cX5_find 13 = .ok (.invokevirtual 42, 3) := by decide +kernel
theorem dX5_find_16 : decode cX5_find 16 = .ok (.aload_n 0, 1) := by decide +kernel
theorem dX5_find_17 : decode cX5_find 17 = .ok (.iconst 0, 1) := by decide +kernel
theorem dX5_find_18 : decode cX5_find 18 = .ok (.putfield 46, 3) := by decide +kernel
theorem dX5_find_21 : decode cX5_find 21 = .ok (.aload_n 0, 1) := by decide +kernel
theorem dX5_find_22 : decode cX5_find 22 = .ok (.invokevirtual 50, 3) := by decide +kernel
theorem dX5_find_25 : decode cX5_find 25 = .ok (.istore_n 3, 1) := by decide +kernel
theorem dX5_find_26 : decode cX5_find 26 = .ok (.iconst 0, 1) := by decide +kernel
theorem dX5_find_27 : decode cX5_find 27 = .ok (.istore 4, 2) := by decide +kernel
theorem dX5_find_29 : decode cX5_find 29 = .ok (.iload 4, 2) := by decide +kernel
theorem dX5_find_31 : decode cX5_find 31 = .ok (.iload_n 3, 1) := by decide +kernel
theorem dX5_find_32 : decode cX5_find 32 = .ok (.if_icmp .ge 27, 3) := by decide +kernel
theorem dX5_find_35 : decode cX5_find 35 = .ok (.aload_n 0, 1) := by decide +kernel
theorem dX5_find_36 : decode cX5_find 36 = .ok (.iload 4, 2) := by decide +kernel
theorem dX5_find_38 : decode cX5_find 38 = .ok (.invokevirtual 54, 3) := by decide +kernel
theorem dX5_find_41 : decode cX5_find 41 = .ok (.aload_n 0, 1) := by decide +kernel
theorem dX5_find_42 : decode cX5_find 42 = .ok (.aload_n 2, 1) := by decide +kernel
theorem dX5_find_43 : decode cX5_find 43 = .ok (.invokevirtual 58, 3) := by decide +kernel
theorem dX5_find_46 : decode cX5_find 46 = .ok (.ifCond .eq 7, 3) := by decide +kernel
theorem dX5_find_49 : decode cX5_find 49 = .ok (.aload_n 0, 1) := by decide +kernel
theorem dX5_find_50 : decode cX5_find 50 = .ok (.invokevirtual 62, 3) := by decide +kernel
theorem dX5_find_53 : decode cX5_find 53 = .ok (.iinc 4 1, 3) := by decide +kernel
theorem dX5_find_56 : decode cX5_find 56 = .ok (.goto (-27), 3) := by decide +kernel
theorem dX5_find_59 : decode cX5_find 59 = .ok (.aload_n 0, 1) := by decide +kernel
theorem dX5_find_60 : decode cX5_find 60 = .ok (.iconst 1, 1) := by decide +kernel
theorem dX5_find_61 : decode cX5_find 61 = .ok (.putfield 38, 3) := by decide +kernel
theorem dX5_find_64 : decode cX5_find 64 = .ok (.return_, 1) := by decide +kernel
theorem dX5_listUntold_0 : decode cX5_listUntold 0 = .ok (.iconst 1, 1) := by decide +kernel
theorem dX5_listUntold_1 : decode cX5_listUntold 1 = .ok (.istore_n 1, 1) := by decide +kernel
theorem dX5_listUntold_2 : decode cX5_listUntold 2 = .ok (.aload_n 0, 1) := by decide +kernel
theorem dX5_listUntold_3 : decode cX5_listUntold 3 = .ok (.iconst 0, 1) := by decide +kernel
theorem dX5_listUntold_4 : decode cX5_listUntold 4 = .ok (.putfield 65, 3) := by decide +kernel
theorem dX5_listUntold_7 : decode cX5_listUntold 7 = .ok (.iconst 0, 1) := by decide +kernel
theorem dX5_listUntold_8 : decode cX5_listUntold 8 = .ok (.istore_n 2, 1) := by decide +kernel
theorem dX5_listUntold_9 : decode cX5_listUntold 9 = .ok (.iload_n 2, 1) := by decide +kernel
theorem dX5_listUntold_10 : decode cX5_listUntold 10 = .ok (.aload_n 0, 1) := by decide +kernel
theorem dX5_listUntold_11 : decode cX5_listUntold 11 = .ok (.getfield 27, 3) := by decide +kernel
theorem dX5_listUntold_14 : decode cX5_listUntold 14 = .ok (.getfield 68, 3) := by decide +kernel
theorem dX5_listUntold_17 : decode cX5_listUntold 17 = .ok (.if_icmp .ge 45, 3) := by decide +kernel
theorem dX5_listUntold_20 : decode cX5_listUntold 20 = .ok (.aload_n 0, 1) := by decide +kernel
theorem dX5_listUntold_21 : decode cX5_listUntold 21 = .ok (.getfield 27, 3) := by decide +kernel
theorem dX5_listUntold_24 : decode cX5_listUntold 24 = .ok (.iload_n 2, 1) := by decide +kernel
theorem dX5_listUntold_25 : decode cX5_listUntold 25 = .ok (.invokevirtual 71, 3) := by decide +kernel
theorem dX5_listUntold_28 : decode cX5_listUntold 28 = .ok (.ifCond .ne 28, 3) := by decide +kernel
theorem dX5_listUntold_31 : decode cX5_listUntold 31 = .ok (.aload_n 0, 1) := by decide +kernel
theorem dX5_listUntold_32 : decode cX5_listUntold 32 = .ok (.getfield 9, 3) := by decide +kernel
theorem dX5_listUntold_35 : decode cX5_listUntold 35 = .ok (.aload_n 0, 1) := by decide +kernel
theorem dX5_listUntold_36 : decode cX5_listUntold 36 = .ok (.getfield 65, 3) := by decide +kernel
theorem dX5_listUntold_39 : decode cX5_listUntold 39 = .ok (.iload_n 2, 1) := by decide +kernel
theorem dX5_listUntold_40 : decode cX5_listUntold 40 = .ok (.iastore, 1) := by decide +kernel
theorem dX5_listUntold_41 : decode cX5_listUntold 41 = .ok (.aload_n 0, 1) := by decide +kernel
theorem dX5_listUntold_42 : decode cX5_listUntold 42 = .ok (.dup, 1) := by decide +kernel
theorem dX5_listUntold_43 : decode cX5_listUntold 43 = .ok (.getfield 65, 3) := by decide +kernel
theorem dX5_listUntold_46 : decode cX5_listUntold 46 = .ok (.iconst 1, 1) := by decide +kernel
theorem dX5_listUntold_47 : decode cX5_listUntold 47 = .ok (.iadd, 1) := by decide +kernel
theorem dX5_listUntold_48 : decode cX5_listUntold 48 = .ok (.putfield 65, 3) := by decide +kernel
theorem dX5_listUntold_51 : decode cX5_listUntold 51 = .ok (.iload_n 1, 1) := by decide +kernel
theorem dX5_listUntold_52 : decode cX5_listUntold 52 = .ok (.bipush 19, 2) := by decide +kernel
theorem dX5_listUntold_54 : decode cX5_listUntold 54 = .ok (.imul, 1) := by decide +kernel
theorem dX5_listUntold_55 : decode cX5_listUntold 55 = .ok (.istore_n 1, 1) := by decide +kernel
theorem dX5_listUntold_56 : decode cX5_listUntold 56 = .ok (.iinc 2 1, 3) := by decide +kernel
theorem dX5_listUntold_59 : decode cX5_listUntold 59 = .ok (.goto (-50), 3) := by decide +kernel
theorem dX5_listUntold_62 : decode cX5_listUntold 62 = .ok (.iload_n 1, 1) := by decide +kernel
theorem dX5_listUntold_63 : decode cX5_listUntold 63 = .ok (.ireturn, 1) := by decide +kernel
theorem dX5_write_0 : decode cX5_write 0 = .ok (.iload_n 1, 1) := by decide +kernel
theorem dX5_write_1 : decode cX5_write 1 = .ok (.istore_n 2, 1) := by decide +kernel
theorem dX5_write_2 : decode cX5_write 2 = .ok (.aload_n 0, 1) := by decide +kernel
theorem dX5_write_3 : decode cX5_write 3 = .ok (.getfield 65, 3) := by decide +kernel
theorem dX5_write_6 : decode cX5_write 6 = .ok (.iconst 1, 1) := by decide +kernel
theorem dX5_write_7 : decode cX5_write 7 = .ok (.isub, 1) := by decide +kernel
theorem dX5_write_8 : decode cX5_write 8 = .ok (.istore_n 3, 1) := by decide +kernel
theorem dX5_write_9 : decode cX5_write 9 = .ok (.iload_n 3, 1) := by decide +kernel
theorem dX5_write_10 : decode cX5_write 10 = .ok (.ifCond .lt 35, 3) := by decide +kernel
theorem dX5_write_13 : decode cX5_write 13 = .ok (.aload_n 0, 1) := by decide +kernel
theorem dX5_write_14 : decode cX5_write 14 = .ok (.getfield 27, 3) := by decide +kernel
theorem dX5_write_17 : decode cX5_write 17 = .ok (.getfield 75, 3) := by decide +kernel
theorem dX5_write_20 : decode cX5_write 20 = .ok (.aload_n 0, 1) := by decide +kernel
theorem dX5_write_21 : decode cX5_write 21 = .ok (.getfield 9, 3) := by decide +kernel
theorem dX5_write_24 : decode cX5_write 24 = .ok (.iload_n 3, 1) := by decide +kernel
theorem dX5_write_25 : decode cX5_write 25 = .ok (.iaload, 1) := by decide +kernel
theorem dX5_write_26 : decode cX5_write 26 = .ok (.iload_n 2, 1) := by decide +kernel
theorem dX5_write_27 : decode cX5_write 27 = .ok (.bipush 19, 2) := by decide +kernel
theorem dX5_write_29 : decode cX5_write 29 = .ok (.irem, 1) := by decide +kernel
theorem dX5_write_30 : decode cX5_write 30 = .ok (.bipush 9, 2) := by decide +kernel
theorem dX5_write_32 : decode cX5_write 32 = .ok (.isub, 1) := by decide +kernel
theorem dX5_write_33 : decode cX5_write 33 = .ok (.iastore, 1) := by decide +kernel
theorem dX5_write_34 : decode cX5_write 34 = .ok (.iload_n 2, 1) := by decide +kernel
theorem dX5_write_35 : decode cX5_write 35 = .ok (.bipush 19, 2) := by decide +kernel
theorem dX5_write_37 : decode cX5_write 37 = .ok (.idiv, 1) := by decide +kernel
theorem dX5_write_38 : decode cX5_write 38 = .ok (.istore_n 2, 1) := by decide +kernel
theorem dX5_write_39 : decode cX5_write 39 = .ok (.iinc 3 (-1), 3) := by decide +kernel
theorem dX5_write_42 : decode cX5_write 42 = .ok (.goto (-33), 3) := by decide +kernel
theorem dX5_write_45 : decode cX5_write 45 = .ok (.return_, 1) := by decide +kernel
theorem dX5_holds_0 : decode cX5_holds 0 = .ok (.iconst 0, 1) := by decide +kernel
theorem dX5_holds_1 : decode cX5_holds 1 = .ok (.istore_n 2, 1) := by decide +kernel
theorem dX5_holds_2 : decode cX5_holds 2 = .ok (.iload_n 2, 1) := by decide +kernel
theorem dX5_holds_3 : decode cX5_holds 3 = .ok (.aload_n 1, 1) := by decide +kernel
theorem dX5_holds_4 : decode cX5_holds 4 = .ok (.getfield 78, 3) := by decide +kernel
theorem dX5_holds_7 : decode cX5_holds 7 = .ok (.if_icmp .ge 53, 3) := by decide +kernel
theorem dX5_holds_10 : decode cX5_holds 10 = .ok (.aload_n 0, 1) := by decide +kernel
theorem dX5_holds_11 : decode cX5_holds 11 = .ok (.getfield 34, 3) := by decide +kernel
theorem dX5_holds_14 : decode cX5_holds 14 = .ok (.aload_n 0, 1) := by decide +kernel
theorem dX5_holds_15 : decode cX5_holds 15 = .ok (.getfield 27, 3) := by decide +kernel
theorem dX5_holds_18 : decode cX5_holds 18 = .ok (.aload_n 1, 1) := by decide +kernel
theorem dX5_holds_19 : decode cX5_holds 19 = .ok (.getfield 81, 3) := by decide +kernel
theorem dX5_holds_22 : decode cX5_holds 22 = .ok (.iload_n 2, 1) := by decide +kernel
theorem dX5_holds_23 : decode cX5_holds 23 = .ok (.iaload, 1) := by decide +kernel
theorem dX5_holds_24 : decode cX5_holds 24 = .ok (.aload_n 1, 1) := by decide +kernel
theorem dX5_holds_25 : decode cX5_holds 25 = .ok (.getfield 84, 3) := by decide +kernel
theorem dX5_holds_28 : decode cX5_holds 28 = .ok (.iload_n 2, 1) := by decide +kernel
theorem dX5_holds_29 : decode cX5_holds 29 = .ok (.iaload, 1) := by decide +kernel
theorem dX5_holds_30 : decode cX5_holds 30 = .ok (.isub, 1) := by decide +kernel
theorem dX5_holds_31 : decode cX5_holds 31 = .ok (.iconst 0, 1) := by decide +kernel
theorem dX5_holds_32 : decode cX5_holds 32 = .ok (.iconst 0, 1) := by decide +kernel
theorem dX5_holds_33 : decode cX5_holds 33 = .ok (.invokevirtual 87, 3) := by decide +kernel
theorem dX5_holds_36 : decode cX5_holds 36 = .ok (.aload_n 0, 1) := by decide +kernel
theorem dX5_holds_37 : decode cX5_holds 37 = .ok (.getfield 34, 3) := by decide +kernel
theorem dX5_holds_40 : decode cX5_holds 40 = .ok (.getfield 91, 3) := by decide +kernel
theorem dX5_holds_43 : decode cX5_holds 43 = .ok (.aload_n 1, 1) := by decide +kernel
theorem dX5_holds_44 : decode cX5_holds 44 = .ok (.getfield 94, 3) := by decide +kernel
theorem dX5_holds_47 : decode cX5_holds 47 = .ok (.iload_n 2, 1) := by decide +kernel
theorem dX5_holds_48 : decode cX5_holds 48 = .ok (.iaload, 1) := by decide +kernel
theorem dX5_holds_49 : decode cX5_holds 49 = .ok (.if_icmp .eq 5, 3) := by decide +kernel
theorem dX5_holds_52 : decode cX5_holds 52 = .ok (.iconst 0, 1) := by decide +kernel
theorem dX5_holds_53 : decode cX5_holds 53 = .ok (.ireturn, 1) := by decide +kernel
theorem dX5_holds_54 : decode cX5_holds 54 = .ok (.iinc 2 1, 3) := by decide +kernel
theorem dX5_holds_57 : decode cX5_holds 57 = .ok (.goto (-55), 3) := by decide +kernel
theorem dX5_holds_60 : decode cX5_holds 60 = .ok (.iconst 1, 1) := by decide +kernel
theorem dX5_holds_61 : decode cX5_holds 61 = .ok (.ireturn, 1) := by decide +kernel
theorem dX5_note_0 : decode cX5_note 0 = .ok (.aload_n 0, 1) := by decide +kernel
theorem dX5_note_1 : decode cX5_note 1 = .ok (.dup, 1) := by decide +kernel
theorem dX5_note_2 : decode cX5_note 2 = .ok (.getfield 46, 3) := by decide +kernel
theorem dX5_note_5 : decode cX5_note 5 = .ok (.iconst 1, 1) := by decide +kernel
theorem dX5_note_6 : decode cX5_note 6 = .ok (.iadd, 1) := by decide +kernel
theorem dX5_note_7 : decode cX5_note 7 = .ok (.putfield 46, 3) := by decide +kernel
theorem dX5_note_10 : decode cX5_note 10 = .ok (.iconst 0, 1) := by decide +kernel
theorem dX5_note_11 : decode cX5_note 11 = .ok (.istore_n 1, 1) := by decide +kernel
theorem dX5_note_12 : decode cX5_note 12 = .ok (.iload_n 1, 1) := by decide +kernel
theorem dX5_note_13 : decode cX5_note 13 = .ok (.aload_n 0, 1) := by decide +kernel
theorem dX5_note_14 : decode cX5_note 14 = .ok (.getfield 65, 3) := by decide +kernel
theorem dX5_note_17 : decode cX5_note 17 = .ok (.if_icmp .ge 87, 3) := by decide +kernel
theorem dX5_note_20 : decode cX5_note 20 = .ok (.aload_n 0, 1) := by decide +kernel
theorem dX5_note_21 : decode cX5_note 21 = .ok (.getfield 9, 3) := by decide +kernel
theorem dX5_note_24 : decode cX5_note 24 = .ok (.iload_n 1, 1) := by decide +kernel
theorem dX5_note_25 : decode cX5_note 25 = .ok (.iaload, 1) := by decide +kernel
theorem dX5_note_26 : decode cX5_note 26 = .ok (.istore_n 2, 1) := by decide +kernel
theorem dX5_note_27 : decode cX5_note 27 = .ok (.aload_n 0, 1) := by decide +kernel
theorem dX5_note_28 : decode cX5_note 28 = .ok (.getfield 27, 3) := by decide +kernel
theorem dX5_note_31 : decode cX5_note 31 = .ok (.getfield 75, 3) := by decide +kernel
theorem dX5_note_34 : decode cX5_note 34 = .ok (.iload_n 2, 1) := by decide +kernel
theorem dX5_note_35 : decode cX5_note 35 = .ok (.iaload, 1) := by decide +kernel
theorem dX5_note_36 : decode cX5_note 36 = .ok (.istore_n 3, 1) := by decide +kernel
theorem dX5_note_37 : decode cX5_note 37 = .ok (.aload_n 0, 1) := by decide +kernel
theorem dX5_note_38 : decode cX5_note 38 = .ok (.getfield 46, 3) := by decide +kernel
theorem dX5_note_41 : decode cX5_note 41 = .ok (.iconst 1, 1) := by decide +kernel
theorem dX5_note_42 : decode cX5_note 42 = .ok (.if_icmp .ne 24, 3) := by decide +kernel
theorem dX5_note_45 : decode cX5_note 45 = .ok (.aload_n 0, 1) := by decide +kernel
theorem dX5_note_46 : decode cX5_note 46 = .ok (.getfield 15, 3) := by decide +kernel
theorem dX5_note_49 : decode cX5_note 49 = .ok (.iload_n 1, 1) := by decide +kernel
theorem dX5_note_50 : decode cX5_note 50 = .ok (.iload_n 3, 1) := by decide +kernel
theorem dX5_note_51 : decode cX5_note 51 = .ok (.iastore, 1) := by decide +kernel
theorem dX5_note_52 : decode cX5_note 52 = .ok (.aload_n 0, 1) := by decide +kernel
theorem dX5_note_53 : decode cX5_note 53 = .ok (.getfield 18, 3) := by decide +kernel
theorem dX5_note_56 : decode cX5_note 56 = .ok (.iload_n 2, 1) := by decide +kernel
theorem dX5_note_57 : decode cX5_note 57 = .ok (.iload_n 3, 1) := by decide +kernel
theorem dX5_note_58 : decode cX5_note 58 = .ok (.iastore, 1) := by decide +kernel
theorem dX5_note_59 : decode cX5_note 59 = .ok (.aload_n 0, 1) := by decide +kernel
theorem dX5_note_60 : decode cX5_note 60 = .ok (.getfield 21, 3) := by decide +kernel
theorem dX5_note_63 : decode cX5_note 63 = .ok (.iload_n 2, 1) := by decide +kernel
theorem dX5_note_64 : decode cX5_note 64 = .ok (.iload_n 3, 1) := by decide +kernel
theorem dX5_note_65 : decode cX5_note 65 = .ok (.iastore, 1) := by decide +kernel
theorem dX5_note_66 : decode cX5_note 66 = .ok (.aload_n 0, 1) := by decide +kernel
theorem dX5_note_67 : decode cX5_note 67 = .ok (.getfield 18, 3) := by decide +kernel
theorem dX5_note_70 : decode cX5_note 70 = .ok (.iload_n 2, 1) := by decide +kernel
theorem dX5_note_71 : decode cX5_note 71 = .ok (.aload_n 0, 1) := by decide +kernel
theorem dX5_note_72 : decode cX5_note 72 = .ok (.getfield 18, 3) := by decide +kernel
theorem dX5_note_75 : decode cX5_note 75 = .ok (.iload_n 2, 1) := by decide +kernel
theorem dX5_note_76 : decode cX5_note 76 = .ok (.iaload, 1) := by decide +kernel
theorem dX5_note_77 : decode cX5_note 77 = .ok (.iload_n 3, 1) := by decide +kernel
theorem dX5_note_78 : decode cX5_note 78 = .ok (.invokestatic 97, 3) := by decide +kernel
theorem dX5_note_81 : decode cX5_note 81 = .ok (.iastore, 1) := by decide +kernel
theorem dX5_note_82 : decode cX5_note 82 = .ok (.aload_n 0, 1) := by decide +kernel
theorem dX5_note_83 : decode cX5_note 83 = .ok (.getfield 21, 3) := by decide +kernel
theorem dX5_note_86 : decode cX5_note 86 = .ok (.iload_n 2, 1) := by decide +kernel
theorem dX5_note_87 : decode cX5_note 87 = .ok (.aload_n 0, 1) := by decide +kernel
theorem dX5_note_88 : decode cX5_note 88 = .ok (.getfield 21, 3) := by decide +kernel
theorem dX5_note_91 : decode cX5_note 91 = .ok (.iload_n 2, 1) := by decide +kernel
theorem dX5_note_92 : decode cX5_note 92 = .ok (.iaload, 1) := by decide +kernel
theorem dX5_note_93 : decode cX5_note 93 = .ok (.iload_n 3, 1) := by decide +kernel
theorem dX5_note_94 : decode cX5_note 94 = .ok (.invokestatic 103, 3) := by decide +kernel
theorem dX5_note_97 : decode cX5_note 97 = .ok (.iastore, 1) := by decide +kernel
theorem dX5_note_98 : decode cX5_note 98 = .ok (.iinc 1 1, 3) := by decide +kernel
theorem dX5_note_101 : decode cX5_note 101 = .ok (.goto (-89), 3) := by decide +kernel
theorem dX5_note_104 : decode cX5_note 104 = .ok (.return_, 1) := by decide +kernel
theorem dX6_init_0 : decode cX6_init 0 = .ok (.aload_n 0, 1) := by decide +kernel
theorem dX6_init_1 : decode cX6_init 1 = .ok (.invokespecial 3, 3) := by decide +kernel
theorem dX6_init_4 : decode cX6_init 4 = .ok (.aload_n 0, 1) := by decide +kernel
theorem dX6_init_5 : decode cX6_init 5 = .ok (.bipush 7, 2) := by decide +kernel
theorem dX6_init_7 : decode cX6_init 7 = .ok (.newarray .int, 2) := by decide +kernel
theorem dX6_init_9 : decode cX6_init 9 = .ok (.putfield 9, 3) := by decide +kernel
theorem dX6_init_12 : decode cX6_init 12 = .ok (.return_, 1) := by decide +kernel
theorem dX6_begin_0 : decode cX6_begin 0 = .ok (.aload_n 0, 1) := by decide +kernel
theorem dX6_begin_1 : decode cX6_begin 1 = .ok (.iconst 0, 1) := by decide +kernel
theorem dX6_begin_2 : decode cX6_begin 2 = .ok (.iload_n 1, 1) := by decide +kernel
theorem dX6_begin_3 : decode cX6_begin 3 = .ok (.bipush 7, 2) := by decide +kernel
theorem dX6_begin_5 : decode cX6_begin 5 = .ok (.invokestatic 15, 3) := by decide +kernel
theorem dX6_begin_8 : decode cX6_begin 8 = .ok (.invokestatic 21, 3) := by decide +kernel
theorem dX6_begin_11 : decode cX6_begin 11 = .ok (.putfield 24, 3) := by decide +kernel
theorem dX6_begin_14 : decode cX6_begin 14 = .ok (.iconst 0, 1) := by decide +kernel
theorem dX6_begin_15 : decode cX6_begin 15 = .ok (.istore_n 2, 1) := by decide +kernel
theorem dX6_begin_16 : decode cX6_begin 16 = .ok (.iload_n 2, 1) := by decide +kernel
theorem dX6_begin_17 : decode cX6_begin 17 = .ok (.aload_n 0, 1) := by decide +kernel
theorem dX6_begin_18 : decode cX6_begin 18 = .ok (.getfield 24, 3) := by decide +kernel
theorem dX6_begin_21 : decode cX6_begin 21 = .ok (.if_icmp .ge 16, 3) := by decide +kernel
theorem dX6_begin_24 : decode cX6_begin 24 = .ok (.aload_n 0, 1) := by decide +kernel
theorem dX6_begin_25 : decode cX6_begin 25 = .ok (.getfield 9, 3) := by decide +kernel
theorem dX6_begin_28 : decode cX6_begin 28 = .ok (.iload_n 2, 1) := by decide +kernel
theorem dX6_begin_29 : decode cX6_begin 29 = .ok (.iload_n 2, 1) := by decide +kernel
theorem dX6_begin_30 : decode cX6_begin 30 = .ok (.iastore, 1) := by decide +kernel
theorem dX6_begin_31 : decode cX6_begin 31 = .ok (.iinc 2 1, 3) := by decide +kernel
theorem dX6_begin_34 : decode cX6_begin 34 = .ok (.goto (-18), 3) := by decide +kernel
theorem dX6_begin_37 : decode cX6_begin 37 = .ok (.aload_n 0, 1) := by decide +kernel
theorem dX6_begin_38 : decode cX6_begin 38 = .ok (.getfield 24, 3) := by decide +kernel
theorem dX6_begin_41 : decode cX6_begin 41 = .ok (.invokestatic 28, 3) := by decide +kernel
theorem dX6_begin_44 : decode cX6_begin 44 = .ok (.ireturn, 1) := by decide +kernel
theorem dX6_advance_0 : decode cX6_advance 0 = .ok (.aload_n 0, 1) := by decide +kernel
theorem dX6_advance_1 : decode cX6_advance 1 = .ok (.getfield 24, 3) := by decide +kernel
theorem dX6_advance_4 : decode cX6_advance 4 = .ok (.iconst 2, 1) := by decide +kernel
theorem dX6_advance_5 : decode cX6_advance 5 = .ok (.isub, 1) := by decide +kernel
theorem dX6_advance_6 : decode cX6_advance 6 = .ok (.istore_n 1, 1) := by decide +kernel
theorem dX6_advance_7 : decode cX6_advance 7 = .ok (.iload_n 1, 1) := by decide +kernel
theorem dX6_advance_8 : decode cX6_advance 8 = .ok (.ifCond .lt 26, 3) := by decide +kernel
theorem dX6_advance_11 : decode cX6_advance 11 = .ok (.aload_n 0, 1) := by decide +kernel
theorem dX6_advance_12 : decode cX6_advance 12 = .ok (.getfield 9, 3) := by decide +kernel
theorem dX6_advance_15 : decode cX6_advance 15 = .ok (.iload_n 1, 1) := by decide +kernel
theorem dX6_advance_16 : decode cX6_advance 16 = .ok (.iaload, 1) := by decide +kernel
theorem dX6_advance_17 : decode cX6_advance 17 = .ok (.aload_n 0, 1) := by decide +kernel
theorem dX6_advance_18 : decode cX6_advance 18 = .ok (.getfield 9, 3) := by decide +kernel
theorem dX6_advance_21 : decode cX6_advance 21 = .ok (.iload_n 1, 1) := by decide +kernel
theorem dX6_advance_22 : decode cX6_advance 22 = .ok (.iconst 1, 1) := by decide +kernel
theorem dX6_advance_23 : decode cX6_advance 23 = .ok (.iadd, 1) := by decide +kernel
theorem dX6_advance_24 : decode cX6_advance 24 = .ok (.iaload, 1) := by decide +kernel
theorem dX6_advance_25 : decode cX6_advance 25 = .ok (.if_icmp .le 9, 3) := by decide +kernel
theorem dX6_advance_28 : decode cX6_advance 28 = .ok (.iinc 1 (-1), 3) := by decide +kernel
theorem dX6_advance_31 : decode cX6_advance 31 = .ok (.goto (-24), 3) := by decide +kernel
theorem dX6_advance_34 : decode cX6_advance 34 = .ok (.iload_n 1, 1) := by decide +kernel
theorem dX6_advance_35 : decode cX6_advance 35 = .ok (.ifCond .ge 4, 3) := by decide +kernel
theorem dX6_advance_38 : decode cX6_advance 38 = .ok (.return_, 1) := by decide +kernel
theorem dX6_advance_39 : decode cX6_advance 39 = .ok (.aload_n 0, 1) := by decide +kernel
theorem dX6_advance_40 : decode cX6_advance 40 = .ok (.getfield 24, 3) := by decide +kernel
theorem dX6_advance_43 : decode cX6_advance 43 = .ok (.iconst 1, 1) := by decide +kernel
theorem dX6_advance_44 : decode cX6_advance 44 = .ok (.isub, 1) := by decide +kernel
theorem dX6_advance_45 : decode cX6_advance 45 = .ok (.istore_n 2, 1) := by decide +kernel
theorem dX6_advance_46 : decode cX6_advance 46 = .ok (.iload_n 2, 1) := by decide +kernel
theorem dX6_advance_47 : decode cX6_advance 47 = .ok (.iload_n 1, 1) := by decide +kernel
theorem dX6_advance_48 : decode cX6_advance 48 = .ok (.if_icmp .le 24, 3) := by decide +kernel
theorem dX6_advance_51 : decode cX6_advance 51 = .ok (.aload_n 0, 1) := by decide +kernel
theorem dX6_advance_52 : decode cX6_advance 52 = .ok (.getfield 9, 3) := by decide +kernel
theorem dX6_advance_55 : decode cX6_advance 55 = .ok (.iload_n 2, 1) := by decide +kernel
theorem dX6_advance_56 : decode cX6_advance 56 = .ok (.iaload, 1) := by decide +kernel
theorem dX6_advance_57 : decode cX6_advance 57 = .ok (.aload_n 0, 1) := by decide +kernel
theorem dX6_advance_58 : decode cX6_advance 58 = .ok (.getfield 9, 3) := by decide +kernel
theorem dX6_advance_61 : decode cX6_advance 61 = .ok (.iload_n 1, 1) := by decide +kernel
theorem dX6_advance_62 : decode cX6_advance 62 = .ok (.iaload, 1) := by decide +kernel
theorem dX6_advance_63 : decode cX6_advance 63 = .ok (.if_icmp .ge 9, 3) := by decide +kernel
theorem dX6_advance_66 : decode cX6_advance 66 = .ok (.iinc 2 (-1), 3) := by decide +kernel
theorem dX6_advance_69 : decode cX6_advance 69 = .ok (.goto (-23), 3) := by decide +kernel
theorem dX6_advance_72 : decode cX6_advance 72 = .ok (.aload_n 0, 1) := by decide +kernel
theorem dX6_advance_73 : decode cX6_advance 73 = .ok (.iload_n 1, 1) := by decide +kernel
theorem dX6_advance_74 : decode cX6_advance 74 = .ok (.iload_n 2, 1) := by decide +kernel
theorem dX6_advance_75 : decode cX6_advance 75 = .ok (.invokevirtual 32, 3) := by decide +kernel
theorem dX6_advance_78 : decode cX6_advance 78 = .ok (.iload_n 1, 1) := by decide +kernel
theorem dX6_advance_79 : decode cX6_advance 79 = .ok (.iconst 1, 1) := by decide +kernel
theorem dX6_advance_80 : decode cX6_advance 80 = .ok (.iadd, 1) := by decide +kernel
theorem dX6_advance_81 : decode cX6_advance 81 = .ok (.istore_n 3, 1) := by decide +kernel
theorem dX6_advance_82 : decode cX6_advance 82 = .ok (.aload_n 0, 1) := by decide +kernel
theorem dX6_advance_83 : decode cX6_advance 83 = .ok (.getfield 24, 3) := by decide +kernel
theorem dX6_advance_86 : decode cX6_advance 86 = .ok (.iconst 1, 1) := by decide +kernel
theorem dX6_advance_87 : decode cX6_advance 87 = .ok (.isub, 1) := by decide +kernel
theorem dX6_advance_88 : decode cX6_advance 88 = .ok (.istore 4, 2) := by decide +kernel
theorem dX6_advance_90 : decode cX6_advance 90 = .ok (.iload_n 3, 1) := by decide +kernel
theorem dX6_advance_91 : decode cX6_advance 91 = .ok (.iload 4, 2) := by decide +kernel
theorem dX6_advance_93 : decode cX6_advance 93 = .ok (.if_icmp .ge 19, 3) := by decide +kernel
theorem dX6_advance_96 : decode cX6_advance 96 = .ok (.aload_n 0, 1) := by decide +kernel
theorem dX6_advance_97 : decode cX6_advance 97 = .ok (.iload_n 3, 1) := by decide +kernel
theorem dX6_advance_98 : decode cX6_advance 98 = .ok (.iload 4, 2) := by decide +kernel
theorem dX6_advance_100 : decode cX6_advance 100 = .ok (.invokevirtual 32, 3) := by decide +kernel
theorem dX6_advance_103 : decode cX6_advance 103 = .ok (.iinc 3 1, 3) := by decide +kernel
theorem dX6_advance_106 : decode cX6_advance 106 = .ok (.iinc 4 (-1), 3) := by decide +kernel
theorem dX6_advance_109 : decode cX6_advance 109 = .ok (.goto (-19), 3) := by decide +kernel
theorem dX6_advance_112 : decode cX6_advance 112 = .ok (.return_, 1) := by decide +kernel
theorem dX6_swap_0 : decode cX6_swap 0 = .ok (.aload_n 0, 1) := by decide +kernel
theorem dX6_swap_1 : decode cX6_swap 1 = .ok (.getfield 9, 3) := by decide +kernel
theorem dX6_swap_4 : decode cX6_swap 4 = .ok (.iload_n 1, 1) := by decide +kernel
theorem dX6_swap_5 : decode cX6_swap 5 = .ok (.iaload, 1) := by decide +kernel
theorem dX6_swap_6 : decode cX6_swap 6 = .ok (.istore_n 3, 1) := by decide +kernel
theorem dX6_swap_7 : decode cX6_swap 7 = .ok (.aload_n 0, 1) := by decide +kernel
theorem dX6_swap_8 : decode cX6_swap 8 = .ok (.getfield 9, 3) := by decide +kernel
theorem dX6_swap_11 : decode cX6_swap 11 = .ok (.iload_n 1, 1) := by decide +kernel
theorem dX6_swap_12 : decode cX6_swap 12 = .ok (.aload_n 0, 1) := by decide +kernel
theorem dX6_swap_13 : decode cX6_swap 13 = .ok (.getfield 9, 3) := by decide +kernel
theorem dX6_swap_16 : decode cX6_swap 16 = .ok (.iload_n 2, 1) := by decide +kernel
theorem dX6_swap_17 : decode cX6_swap 17 = .ok (.iaload, 1) := by decide +kernel
theorem dX6_swap_18 : decode cX6_swap 18 = .ok (.iastore, 1) := by decide +kernel
theorem dX6_swap_19 : decode cX6_swap 19 = .ok (.aload_n 0, 1) := by decide +kernel
theorem dX6_swap_20 : decode cX6_swap 20 = .ok (.getfield 9, 3) := by decide +kernel
theorem dX6_swap_23 : decode cX6_swap 23 = .ok (.iload_n 2, 1) := by decide +kernel
theorem dX6_swap_24 : decode cX6_swap 24 = .ok (.iload_n 3, 1) := by decide +kernel
theorem dX6_swap_25 : decode cX6_swap 25 = .ok (.iastore, 1) := by decide +kernel
theorem dX6_swap_26 : decode cX6_swap 26 = .ok (.return_, 1) := by decide +kernel
theorem dX7_init_0 : decode cX7_init 0 = .ok (.aload_n 0, 1) := by decide +kernel
theorem dX7_init_1 : decode cX7_init 1 = .ok (.invokespecial 3, 3) := by decide +kernel
theorem dX7_init_4 : decode cX7_init 4 = .ok (.aload_n 0, 1) := by decide +kernel
theorem dX7_init_5 : decode cX7_init 5 = .ok (.bipush 60, 2) := by decide +kernel
theorem dX7_init_7 : decode cX7_init 7 = .ok (.newarray .int, 2) := by decide +kernel
theorem dX7_init_9 : decode cX7_init 9 = .ok (.putfield 9, 3) := by decide +kernel
theorem dX7_init_12 : decode cX7_init 12 = .ok (.aload_n 0, 1) := by decide +kernel
theorem dX7_init_13 : decode cX7_init 13 = .ok (.new 15, 3) := by decide +kernel
theorem dX7_init_16 : decode cX7_init 16 = .ok (.dup, 1) := by decide +kernel
theorem dX7_init_17 : decode cX7_init 17 = .ok (.invokespecial 17, 3) := by decide +kernel
theorem dX7_init_20 : decode cX7_init 20 = .ok (.putfield 18, 3) := by decide +kernel
theorem dX7_init_23 : decode cX7_init 23 = .ok (.return_, 1) := by decide +kernel
theorem dX7_add_0 : decode cX7_add 0 = .ok (.aload_n 0, 1) := by decide +kernel
theorem dX7_add_1 : decode cX7_add 1 = .ok (.getfield 22, 3) := by decide +kernel
theorem dX7_add_4 : decode cX7_add 4 = .ok (.bipush 60, 2) := by decide +kernel
theorem dX7_add_6 : decode cX7_add 6 = .ok (.if_icmp .lt 5, 3) := by decide +kernel
theorem dX7_add_9 : decode cX7_add 9 = .ok (.iconst 0, 1) := by decide +kernel
theorem dX7_add_10 : decode cX7_add 10 = .ok (.ireturn, 1) := by decide +kernel
theorem dX7_add_11 : decode cX7_add 11 = .ok (.aload_n 0, 1) := by decide +kernel
theorem dX7_add_12 : decode cX7_add 12 = .ok (.getfield 9, 3) := by decide +kernel
theorem dX7_add_15 : decode cX7_add 15 = .ok (.aload_n 0, 1) := by decide +kernel
theorem dX7_add_16 : decode cX7_add 16 = .ok (.getfield 22, 3) := by decide +kernel
theorem dX7_add_19 : decode cX7_add 19 = .ok (.iload_n 1, 1) := by decide +kernel
theorem dX7_add_20 : decode cX7_add 20 = .ok (.iastore, 1) := by decide +kernel
theorem dX7_add_21 : decode cX7_add 21 = .ok (.aload_n 0, 1) := by decide +kernel
theorem dX7_add_22 : decode cX7_add 22 = .ok (.dup, 1) := by decide +kernel
theorem dX7_add_23 : decode cX7_add 23 = .ok (.getfield 22, 3) := by decide +kernel
theorem dX7_add_26 : decode cX7_add 26 = .ok (.iconst 1, 1) := by decide +kernel
theorem dX7_add_27 : decode cX7_add 27 = .ok (.iadd, 1) := by decide +kernel
theorem dX7_add_28 : decode cX7_add 28 = .ok (.putfield 22, 3) := by decide +kernel
theorem dX7_add_31 : decode cX7_add 31 = .ok (.iconst 1, 1) := by decide +kernel
theorem dX7_add_32 : decode cX7_add 32 = .ok (.ireturn, 1) := by decide +kernel
theorem dX7_firstFault_0 : decode cX7_firstFault 0 = .ok (.aload_n 0, 1) := by decide +kernel
theorem dX7_firstFault_1 : decode cX7_firstFault 1 = .ok (.getfield 18, 3) := by decide +kernel
theorem dX7_firstFault_4 : decode cX7_firstFault 4 = .ok (.invokevirtual 26, 3) := by decide +kernel
theorem dX7_firstFault_7 : decode cX7_firstFault 7 = .ok (.aload_n 0, 1) := by decide +kernel
theorem dX7_firstFault_8 : decode cX7_firstFault 8 = .ok (.iconst 0, 1) := by decide +kernel
theorem dX7_firstFault_9 : decode cX7_firstFault 9 = .ok (.putfield 29, 3) := by decide +kernel
theorem dX7_firstFault_12 : decode cX7_firstFault 12 = .ok (.iconst 0, 1) := by decide +kernel
theorem dX7_firstFault_13 : decode cX7_firstFault 13 = .ok (.istore_n 1, 1) := by decide +kernel
theorem dX7_firstFault_14 : decode cX7_firstFault 14 = .ok (.iload_n 1, 1) := by decide +kernel
theorem dX7_firstFault_15 : decode cX7_firstFault 15 = .ok (.aload_n 0, 1) := by decide +kernel
theorem dX7_firstFault_16 : decode cX7_firstFault 16 = .ok (.getfield 22, 3) := by decide +kernel
theorem dX7_firstFault_19 : decode cX7_firstFault 19 = .ok (.if_icmp .ge 24, 3) := by decide +kernel
theorem dX7_firstFault_22 : decode cX7_firstFault 22 = .ok (.aload_n 0, 1) := by decide +kernel
theorem dX7_firstFault_23 : decode cX7_firstFault 23 = .ok (.aload_n 0, 1) := by decide +kernel
theorem dX7_firstFault_24 : decode cX7_firstFault 24 = .ok (.getfield 9, 3) := by decide +kernel
theorem dX7_firstFault_27 : decode cX7_firstFault 27 = .ok (.iload_n 1, 1) := by decide +kernel
theorem dX7_firstFault_28 : decode cX7_firstFault 28 = .ok (.iaload, 1) := by decide +kernel
theorem dX7_firstFault_29 : decode cX7_firstFault 29 = .ok (.invokevirtual 32, 3) := by decide +kernel
theorem dX7_firstFault_32 : decode cX7_firstFault 32 = .ok (.ifCond .ne 5, 3) := by decide +kernel
theorem dX7_firstFault_35 : decode cX7_firstFault 35 = .ok (.iload_n 1, 1) := by decide +kernel
theorem dX7_firstFault_36 : decode cX7_firstFault 36 = .ok (.ireturn, 1) := by decide +kernel
theorem dX7_firstFault_37 : decode cX7_firstFault 37 = .ok (.iinc 1 1, 3) := by decide +kernel
theorem dX7_firstFault_40 : decode cX7_firstFault 40 = .ok (.goto (-26), 3) := by decide +kernel
theorem dX7_firstFault_43 : decode cX7_firstFault 43 = .ok (.aload_n 0, 1) := by decide +kernel
theorem dX7_firstFault_44 : decode cX7_firstFault 44 = .ok (.getfield 29, 3) := by decide +kernel
theorem dX7_firstFault_47 : decode cX7_firstFault 47 = .ok (.ifCond .ne 8, 3) := by decide +kernel
theorem dX7_firstFault_50 : decode cX7_firstFault 50 = .ok (.bipush (-6), 2) := by decide +kernel
theorem dX7_firstFault_52 : decode cX7_firstFault 52 = .ok (.goto 7, 3) := by decide +kernel
theorem dX7_firstFault_55 : decode cX7_firstFault 55 = .ok (.aload_n 0, 1) := by decide +kernel
theorem dX7_firstFault_56 : decode cX7_firstFault 56 = .ok (.getfield 22, 3) := by decide +kernel
theorem dX7_firstFault_59 : decode cX7_firstFault 59 = .ok (.ireturn, 1) := by decide +kernel
theorem dX7_takes_0 : decode cX7_takes 0 = .ok (.aload_n 0, 1) := by decide +kernel
theorem dX7_takes_1 : decode cX7_takes 1 = .ok (.getfield 29, 3) := by decide +kernel
theorem dX7_takes_4 : decode cX7_takes 4 = .ok (.tableswitch 105 0 5 #[40, 46, 52, 58, 77, 83], 40) := by decide +kernel
theorem dX7_takes_44 : decode cX7_takes 44 = .ok (.aload_n 0, 1) := by decide +kernel
theorem dX7_takes_45 : decode cX7_takes 45 = .ok (.iload_n 1, 1) := by decide +kernel
theorem dX7_takes_46 : decode cX7_takes 46 = .ok (.invokevirtual 36, 3) := by decide +kernel
theorem dX7_takes_49 : decode cX7_takes 49 = .ok (.ireturn, 1) := by decide +kernel
theorem dX7_takes_50 : decode cX7_takes 50 = .ok (.aload_n 0, 1) := by decide +kernel
theorem dX7_takes_51 : decode cX7_takes 51 = .ok (.iload_n 1, 1) := by decide +kernel
theorem dX7_takes_52 : decode cX7_takes 52 = .ok (.invokevirtual 39, 3) := by decide +kernel
theorem dX7_takes_55 : decode cX7_takes 55 = .ok (.ireturn, 1) := by decide +kernel
theorem dX7_takes_56 : decode cX7_takes 56 = .ok (.aload_n 0, 1) := by decide +kernel
theorem dX7_takes_57 : decode cX7_takes 57 = .ok (.iload_n 1, 1) := by decide +kernel
theorem dX7_takes_58 : decode cX7_takes 58 = .ok (.invokevirtual 42, 3) := by decide +kernel
theorem dX7_takes_61 : decode cX7_takes 61 = .ok (.ireturn, 1) := by decide +kernel
theorem dX7_takes_62 : decode cX7_takes 62 = .ok (.iload_n 1, 1) := by decide +kernel
theorem dX7_takes_63 : decode cX7_takes 63 = .ok (.bipush 33, 2) := by decide +kernel
theorem dX7_takes_65 : decode cX7_takes 65 = .ok (.if_icmp .ne 10, 3) := by decide +kernel
theorem dX7_takes_68 : decode cX7_takes 68 = .ok (.aload_n 0, 1) := by decide +kernel
theorem dX7_takes_69 : decode cX7_takes 69 = .ok (.invokevirtual 45, 3) := by decide +kernel
theorem dX7_takes_72 : decode cX7_takes 72 = .ok (.goto 8, 3) := by decide +kernel
theorem dX7_takes_75 : decode cX7_takes 75 = .ok (.aload_n 0, 1) := by decide +kernel
theorem dX7_takes_76 : decode cX7_takes 76 = .ok (.iload_n 1, 1) := by decide +kernel
theorem dX7_takes_77 : decode cX7_takes 77 = .ok (.invokevirtual 49, 3) := by decide +kernel
theorem dX7_takes_80 : decode cX7_takes 80 = .ok (.ireturn, 1) := by decide +kernel
theorem dX7_takes_81 : decode cX7_takes 81 = .ok (.aload_n 0, 1) := by decide +kernel
theorem dX7_takes_82 : decode cX7_takes 82 = .ok (.iload_n 1, 1) := by decide +kernel
theorem dX7_takes_83 : decode cX7_takes 83 = .ok (.invokevirtual 52, 3) := by decide +kernel
theorem dX7_takes_86 : decode cX7_takes 86 = .ok (.ireturn, 1) := by decide +kernel
theorem dX7_takes_87 : decode cX7_takes 87 = .ok (.aload_n 0, 1) := by decide +kernel
theorem dX7_takes_88 : decode cX7_takes 88 = .ok (.iload_n 1, 1) := by decide +kernel
theorem dX7_takes_89 : decode cX7_takes 89 = .ok (.invokevirtual 52, 3) := by decide +kernel
theorem dX7_takes_92 : decode cX7_takes 92 = .ok (.ifCond .ne 11, 3) := by decide +kernel
theorem dX7_takes_95 : decode cX7_takes 95 = .ok (.aload_n 0, 1) := by decide +kernel
theorem dX7_takes_96 : decode cX7_takes 96 = .ok (.iload_n 1, 1) := by decide +kernel
theorem dX7_takes_97 : decode cX7_takes 97 = .ok (.invokevirtual 49, 3) := by decide +kernel
theorem dX7_takes_100 : decode cX7_takes 100 = .ok (.ifCond .eq 7, 3) := by decide +kernel
theorem dX7_takes_103 : decode cX7_takes 103 = .ok (.iconst 1, 1) := by decide +kernel
theorem dX7_takes_104 : decode cX7_takes 104 = .ok (.goto 4, 3) := by decide +kernel
theorem dX7_takes_107 : decode cX7_takes 107 = .ok (.iconst 0, 1) := by decide +kernel
theorem dX7_takes_108 : decode cX7_takes 108 = .ok (.ireturn, 1) := by decide +kernel
theorem dX7_takes_109 : decode cX7_takes 109 = .ok (.aload_n 0, 1) := by decide +kernel
theorem dX7_takes_110 : decode cX7_takes 110 = .ok (.iload_n 1, 1) := by decide +kernel
theorem dX7_takes_111 : decode cX7_takes 111 = .ok (.invokevirtual 49, 3) := by decide +kernel
theorem dX7_takes_114 : decode cX7_takes 114 = .ok (.ireturn, 1) := by decide +kernel
theorem dX7_takesHalves_0 : decode cX7_takesHalves 0 = .ok (.aload_n 0, 1) := by decide +kernel
theorem dX7_takesHalves_1 : decode cX7_takesHalves 1 = .ok (.getfield 18, 3) := by decide +kernel
theorem dX7_takesHalves_4 : decode cX7_takesHalves 4 = .ok (.getfield 55, 3) := by decide +kernel
theorem dX7_takesHalves_7 : decode cX7_takesHalves 7 = .ok (.bipush 7, 2) := by decide +kernel
theorem dX7_takesHalves_9 : decode cX7_takesHalves 9 = .ok (.if_icmp .ge 15, 3) := by decide +kernel
theorem dX7_takesHalves_12 : decode cX7_takesHalves 12 = .ok (.iload_n 1, 1) := by decide +kernel
theorem dX7_takesHalves_13 : decode cX7_takesHalves 13 = .ok (.bipush 49, 2) := by decide +kernel
theorem dX7_takesHalves_15 : decode cX7_takesHalves 15 = .ok (.if_icmp .lt 9, 3) := by decide +kernel
theorem dX7_takesHalves_18 : decode cX7_takesHalves 18 = .ok (.iload_n 1, 1) := by decide +kernel
theorem dX7_takesHalves_19 : decode cX7_takesHalves 19 = .ok (.bipush 57, 2) := by decide +kernel
theorem dX7_takesHalves_21 : decode cX7_takesHalves 21 = .ok (.if_icmp .le 5, 3) := by decide +kernel
theorem dX7_takesHalves_24 : decode cX7_takesHalves 24 = .ok (.iconst 0, 1) := by decide +kernel
theorem dX7_takesHalves_25 : decode cX7_takesHalves 25 = .ok (.ireturn, 1) := by decide +kernel
theorem dX7_takesHalves_26 : decode cX7_takesHalves 26 = .ok (.aload_n 0, 1) := by decide +kernel
theorem dX7_takesHalves_27 : decode cX7_takesHalves 27 = .ok (.getfield 18, 3) := by decide +kernel
theorem dX7_takesHalves_30 : decode cX7_takesHalves 30 = .ok (.getfield 58, 3) := by decide +kernel
theorem dX7_takesHalves_33 : decode cX7_takesHalves 33 = .ok (.aload_n 0, 1) := by decide +kernel
theorem dX7_takesHalves_34 : decode cX7_takesHalves 34 = .ok (.getfield 18, 3) := by decide +kernel
theorem dX7_takesHalves_37 : decode cX7_takesHalves 37 = .ok (.getfield 55, 3) := by decide +kernel
theorem dX7_takesHalves_40 : decode cX7_takesHalves 40 = .ok (.iload_n 1, 1) := by decide +kernel
theorem dX7_takesHalves_41 : decode cX7_takesHalves 41 = .ok (.bipush 48, 2) := by decide +kernel
theorem dX7_takesHalves_43 : decode cX7_takesHalves 43 = .ok (.isub, 1) := by decide +kernel
theorem dX7_takesHalves_44 : decode cX7_takesHalves 44 = .ok (.iastore, 1) := by decide +kernel
theorem dX7_takesHalves_45 : decode cX7_takesHalves 45 = .ok (.aload_n 0, 1) := by decide +kernel
theorem dX7_takesHalves_46 : decode cX7_takesHalves 46 = .ok (.iconst 1, 1) := by decide +kernel
theorem dX7_takesHalves_47 : decode cX7_takesHalves 47 = .ok (.putfield 29, 3) := by decide +kernel
theorem dX7_takesHalves_50 : decode cX7_takesHalves 50 = .ok (.iconst 1, 1) := by decide +kernel
theorem dX7_takesHalves_51 : decode cX7_takesHalves 51 = .ok (.ireturn, 1) := by decide +kernel
theorem dX7_takesLikes_0 : decode cX7_takesLikes 0 = .ok (.iload_n 1, 1) := by decide +kernel
theorem dX7_takesLikes_1 : decode cX7_takesLikes 1 = .ok (.bipush 63, 2) := by decide +kernel
theorem dX7_takesLikes_3 : decode cX7_takesLikes 3 = .ok (.if_icmp .ne 45, 3) := by decide +kernel
theorem dX7_takesLikes_6 : decode cX7_takesLikes 6 = .ok (.aload_n 0, 1) := by decide +kernel
theorem dX7_takesLikes_7 : decode cX7_takesLikes 7 = .ok (.getfield 18, 3) := by decide +kernel
theorem dX7_takesLikes_10 : decode cX7_takesLikes 10 = .ok (.getfield 61, 3) := by decide +kernel
theorem dX7_takesLikes_13 : decode cX7_takesLikes 13 = .ok (.invokestatic 64, 3) := by decide +kernel
theorem dX7_takesLikes_16 : decode cX7_takesLikes 16 = .ok (.iconst 3, 1) := by decide +kernel
theorem dX7_takesLikes_17 : decode cX7_takesLikes 17 = .ok (.if_icmp .ge 31, 3) := by decide +kernel
theorem dX7_takesLikes_20 : decode cX7_takesLikes 20 = .ok (.aload_n 0, 1) := by decide +kernel
theorem dX7_takesLikes_21 : decode cX7_takesLikes 21 = .ok (.getfield 18, 3) := by decide +kernel
theorem dX7_takesLikes_24 : decode cX7_takesLikes 24 = .ok (.dup, 1) := by decide +kernel
theorem dX7_takesLikes_25 : decode cX7_takesLikes 25 = .ok (.getfield 61, 3) := by decide +kernel
theorem dX7_takesLikes_28 : decode cX7_takesLikes 28 = .ok (.iconst 1, 1) := by decide +kernel
theorem dX7_takesLikes_29 : decode cX7_takesLikes 29 = .ok (.aload_n 0, 1) := by decide +kernel
theorem dX7_takesLikes_30 : decode cX7_takesLikes 30 = .ok (.getfield 18, 3) := by decide +kernel
theorem dX7_takesLikes_33 : decode cX7_takesLikes 33 = .ok (.getfield 55, 3) := by decide +kernel
theorem dX7_takesLikes_36 : decode cX7_takesLikes 36 = .ok (.ishl, 1) := by decide +kernel
theorem dX7_takesLikes_37 : decode cX7_takesLikes 37 = .ok (.ior, 1) := by decide +kernel
theorem dX7_takesLikes_38 : decode cX7_takesLikes 38 = .ok (.putfield 61, 3) := by decide +kernel
theorem dX7_takesLikes_41 : decode cX7_takesLikes 41 = .ok (.aload_n 0, 1) := by decide +kernel
theorem dX7_takesLikes_42 : decode cX7_takesLikes 42 = .ok (.iconst 3, 1) := by decide +kernel
theorem dX7_takesLikes_43 : decode cX7_takesLikes 43 = .ok (.putfield 29, 3) := by decide +kernel
theorem dX7_takesLikes_46 : decode cX7_takesLikes 46 = .ok (.iconst 1, 1) := by decide +kernel
theorem dX7_takesLikes_47 : decode cX7_takesLikes 47 = .ok (.ireturn, 1) := by decide +kernel
theorem dX7_takesLikes_48 : decode cX7_takesLikes 48 = .ok (.iload_n 1, 1) := by decide +kernel
theorem dX7_takesLikes_49 : decode cX7_takesLikes 49 = .ok (.bipush 43, 2) := by decide +kernel
theorem dX7_takesLikes_51 : decode cX7_takesLikes 51 = .ok (.if_icmp .eq 11, 3) := by decide +kernel
theorem dX7_takesLikes_54 : decode cX7_takesLikes 54 = .ok (.iload_n 1, 1) := by decide +kernel
theorem dX7_takesLikes_55 : decode cX7_takesLikes 55 = .ok (.bipush 45, 2) := by decide +kernel
theorem dX7_takesLikes_57 : decode cX7_takesLikes 57 = .ok (.if_icmp .eq 5, 3) := by decide +kernel
theorem dX7_takesLikes_60 : decode cX7_takesLikes 60 = .ok (.iconst 0, 1) := by decide +kernel
theorem dX7_takesLikes_61 : decode cX7_takesLikes 61 = .ok (.ireturn, 1) := by decide +kernel
theorem dX7_takesLikes_62 : decode cX7_takesLikes 62 = .ok (.aload_n 0, 1) := by decide +kernel
theorem dX7_takesLikes_63 : decode cX7_takesLikes 63 = .ok (.iload_n 1, 1) := by decide +kernel
theorem dX7_takesLikes_64 : decode cX7_takesLikes 64 = .ok (.bipush 45, 2) := by decide +kernel
theorem dX7_takesLikes_66 : decode cX7_takesLikes 66 = .ok (.if_icmp .ne 7, 3) := by decide +kernel
theorem dX7_takesLikes_69 : decode cX7_takesLikes 69 = .ok (.iconst 1, 1) := by decide +kernel
theorem dX7_takesLikes_70 : decode cX7_takesLikes 70 = .ok (.goto 4, 3) := by decide +kernel
theorem dX7_takesLikes_73 : decode cX7_takesLikes 73 = .ok (.iconst 0, 1) := by decide +kernel
theorem dX7_takesLikes_74 : decode cX7_takesLikes 74 = .ok (.putfield 70, 3) := by decide +kernel
theorem dX7_takesLikes_77 : decode cX7_takesLikes 77 = .ok (.aload_n 0, 1) := by decide +kernel
theorem dX7_takesLikes_78 : decode cX7_takesLikes 78 = .ok (.iconst 2, 1) := by decide +kernel
theorem dX7_takesLikes_79 : decode cX7_takesLikes 79 = .ok (.putfield 29, 3) := by decide +kernel
theorem dX7_takesLikes_82 : decode cX7_takesLikes 82 = .ok (.iconst 1, 1) := by decide +kernel
theorem dX7_takesLikes_83 : decode cX7_takesLikes 83 = .ok (.ireturn, 1) := by decide +kernel
theorem dX7_takesDigit_0 : decode cX7_takesDigit 0 = .ok (.aload_n 0, 1) := by decide +kernel
theorem dX7_takesDigit_1 : decode cX7_takesDigit 1 = .ok (.getfield 18, 3) := by decide +kernel
theorem dX7_takesDigit_4 : decode cX7_takesDigit 4 = .ok (.getfield 55, 3) := by decide +kernel
theorem dX7_takesDigit_7 : decode cX7_takesDigit 7 = .ok (.bipush 7, 2) := by decide +kernel
theorem dX7_takesDigit_9 : decode cX7_takesDigit 9 = .ok (.if_icmp .ge 15, 3) := by decide +kernel
theorem dX7_takesDigit_12 : decode cX7_takesDigit 12 = .ok (.iload_n 1, 1) := by decide +kernel
theorem dX7_takesDigit_13 : decode cX7_takesDigit 13 = .ok (.bipush 48, 2) := by decide +kernel
theorem dX7_takesDigit_15 : decode cX7_takesDigit 15 = .ok (.if_icmp .lt 9, 3) := by decide +kernel
theorem dX7_takesDigit_18 : decode cX7_takesDigit 18 = .ok (.iload_n 1, 1) := by decide +kernel
theorem dX7_takesDigit_19 : decode cX7_takesDigit 19 = .ok (.bipush 57, 2) := by decide +kernel
theorem dX7_takesDigit_21 : decode cX7_takesDigit 21 = .ok (.if_icmp .le 5, 3) := by decide +kernel
theorem dX7_takesDigit_24 : decode cX7_takesDigit 24 = .ok (.iconst 0, 1) := by decide +kernel
theorem dX7_takesDigit_25 : decode cX7_takesDigit 25 = .ok (.ireturn, 1) := by decide +kernel
theorem dX7_takesDigit_26 : decode cX7_takesDigit 26 = .ok (.aload_n 0, 1) := by decide +kernel
theorem dX7_takesDigit_27 : decode cX7_takesDigit 27 = .ok (.getfield 18, 3) := by decide +kernel
theorem dX7_takesDigit_30 : decode cX7_takesDigit 30 = .ok (.getfield 74, 3) := by decide +kernel
theorem dX7_takesDigit_33 : decode cX7_takesDigit 33 = .ok (.aload_n 0, 1) := by decide +kernel
theorem dX7_takesDigit_34 : decode cX7_takesDigit 34 = .ok (.getfield 18, 3) := by decide +kernel
theorem dX7_takesDigit_37 : decode cX7_takesDigit 37 = .ok (.getfield 55, 3) := by decide +kernel
theorem dX7_takesDigit_40 : decode cX7_takesDigit 40 = .ok (.aload_n 0, 1) := by decide +kernel
theorem dX7_takesDigit_41 : decode cX7_takesDigit 41 = .ok (.getfield 70, 3) := by decide +kernel
theorem dX7_takesDigit_44 : decode cX7_takesDigit 44 = .ok (.ifCond .eq 10, 3) := by decide +kernel
theorem dX7_takesDigit_47 : decode cX7_takesDigit 47 = .ok (.bipush 48, 2) := by decide +kernel
theorem dX7_takesDigit_49 : decode cX7_takesDigit 49 = .ok (.iload_n 1, 1) := by decide +kernel
theorem dX7_takesDigit_50 : decode cX7_takesDigit 50 = .ok (.isub, 1) := by decide +kernel
theorem dX7_takesDigit_51 : decode cX7_takesDigit 51 = .ok (.goto 7, 3) := by decide +kernel
theorem dX7_takesDigit_54 : decode cX7_takesDigit 54 = .ok (.iload_n 1, 1) := by decide +kernel
theorem dX7_takesDigit_55 : decode cX7_takesDigit 55 = .ok (.bipush 48, 2) := by decide +kernel
theorem dX7_takesDigit_57 : decode cX7_takesDigit 57 = .ok (.isub, 1) := by decide +kernel
theorem dX7_takesDigit_58 : decode cX7_takesDigit 58 = .ok (.iastore, 1) := by decide +kernel
theorem dX7_takesDigit_59 : decode cX7_takesDigit 59 = .ok (.aload_n 0, 1) := by decide +kernel
theorem dX7_takesDigit_60 : decode cX7_takesDigit 60 = .ok (.iconst 3, 1) := by decide +kernel
theorem dX7_takesDigit_61 : decode cX7_takesDigit 61 = .ok (.putfield 29, 3) := by decide +kernel
theorem dX7_takesDigit_64 : decode cX7_takesDigit 64 = .ok (.iconst 1, 1) := by decide +kernel
theorem dX7_takesDigit_65 : decode cX7_takesDigit 65 = .ok (.ireturn, 1) := by decide +kernel
theorem dX7_takesFearMark_0 : decode cX7_takesFearMark 0 = .ok (.aload_n 0, 1) := by decide +kernel
theorem dX7_takesFearMark_1 : decode cX7_takesFearMark 1 = .ok (.iconst (-1), 1) := by decide +kernel
theorem dX7_takesFearMark_2 : decode cX7_takesFearMark 2 = .ok (.putfield 77, 3) := by decide +kernel
theorem dX7_takesFearMark_5 : decode cX7_takesFearMark 5 = .ok (.aload_n 0, 1) := by decide +kernel
theorem dX7_takesFearMark_6 : decode cX7_takesFearMark 6 = .ok (.iconst 4, 1) := by decide +kernel
theorem dX7_takesFearMark_7 : decode cX7_takesFearMark 7 = .ok (.putfield 29, 3) := by decide +kernel
theorem dX7_takesFearMark_10 : decode cX7_takesFearMark 10 = .ok (.iconst 1, 1) := by decide +kernel
theorem dX7_takesFearMark_11 : decode cX7_takesFearMark 11 = .ok (.ireturn, 1) := by decide +kernel
theorem dX7_takesFeared_0 : decode cX7_takesFeared 0 = .ok (.iload_n 1, 1) := by decide +kernel
theorem dX7_takesFeared_1 : decode cX7_takesFeared 1 = .ok (.bipush 97, 2) := by decide +kernel
theorem dX7_takesFeared_3 : decode cX7_takesFeared 3 = .ok (.isub, 1) := by decide +kernel
theorem dX7_takesFeared_4 : decode cX7_takesFeared 4 = .ok (.istore_n 2, 1) := by decide +kernel
theorem dX7_takesFeared_5 : decode cX7_takesFeared 5 = .ok (.aload_n 0, 1) := by decide +kernel
theorem dX7_takesFeared_6 : decode cX7_takesFeared 6 = .ok (.getfield 18, 3) := by decide +kernel
theorem dX7_takesFeared_9 : decode cX7_takesFeared 9 = .ok (.getfield 55, 3) := by decide +kernel
theorem dX7_takesFeared_12 : decode cX7_takesFeared 12 = .ok (.bipush 7, 2) := by decide +kernel
theorem dX7_takesFeared_14 : decode cX7_takesFeared 14 = .ok (.if_icmp .ge 28, 3) := by decide +kernel
theorem dX7_takesFeared_17 : decode cX7_takesFeared 17 = .ok (.iload_n 2, 1) := by decide +kernel
theorem dX7_takesFeared_18 : decode cX7_takesFeared 18 = .ok (.aload_n 0, 1) := by decide +kernel
theorem dX7_takesFeared_19 : decode cX7_takesFeared 19 = .ok (.getfield 77, 3) := by decide +kernel
theorem dX7_takesFeared_22 : decode cX7_takesFeared 22 = .ok (.if_icmp .le 20, 3) := by decide +kernel
theorem dX7_takesFeared_25 : decode cX7_takesFeared 25 = .ok (.iload_n 2, 1) := by decide +kernel
theorem dX7_takesFeared_26 : decode cX7_takesFeared 26 = .ok (.bipush 7, 2) := by decide +kernel
theorem dX7_takesFeared_28 : decode cX7_takesFeared 28 = .ok (.if_icmp .ge 14, 3) := by decide +kernel
theorem dX7_takesFeared_31 : decode cX7_takesFeared 31 = .ok (.iload_n 2, 1) := by decide +kernel
theorem dX7_takesFeared_32 : decode cX7_takesFeared 32 = .ok (.aload_n 0, 1) := by decide +kernel
theorem dX7_takesFeared_33 : decode cX7_takesFeared 33 = .ok (.getfield 18, 3) := by decide +kernel
theorem dX7_takesFeared_36 : decode cX7_takesFeared 36 = .ok (.getfield 55, 3) := by decide +kernel
theorem dX7_takesFeared_39 : decode cX7_takesFeared 39 = .ok (.if_icmp .ne 5, 3) := by decide +kernel
theorem dX7_takesFeared_42 : decode cX7_takesFeared 42 = .ok (.iconst 0, 1) := by decide +kernel
theorem dX7_takesFeared_43 : decode cX7_takesFeared 43 = .ok (.ireturn, 1) := by decide +kernel
theorem dX7_takesFeared_44 : decode cX7_takesFeared 44 = .ok (.aload_n 0, 1) := by decide +kernel
theorem dX7_takesFeared_45 : decode cX7_takesFeared 45 = .ok (.getfield 18, 3) := by decide +kernel
theorem dX7_takesFeared_48 : decode cX7_takesFeared 48 = .ok (.getfield 80, 3) := by decide +kernel
theorem dX7_takesFeared_51 : decode cX7_takesFeared 51 = .ok (.aload_n 0, 1) := by decide +kernel
theorem dX7_takesFeared_52 : decode cX7_takesFeared 52 = .ok (.getfield 18, 3) := by decide +kernel
theorem dX7_takesFeared_55 : decode cX7_takesFeared 55 = .ok (.getfield 55, 3) := by decide +kernel
theorem dX7_takesFeared_58 : decode cX7_takesFeared 58 = .ok (.dup2, 1) := by decide +kernel
theorem dX7_takesFeared_59 : decode cX7_takesFeared 59 = .ok (.iaload, 1) := by decide +kernel
theorem dX7_takesFeared_60 : decode cX7_takesFeared 60 = .ok (.iconst 1, 1) := by decide +kernel
theorem dX7_takesFeared_61 : decode cX7_takesFeared 61 = .ok (.iload_n 2, 1) := by decide +kernel
theorem dX7_takesFeared_62 : decode cX7_takesFeared 62 = .ok (.ishl, 1) := by decide +kernel
theorem dX7_takesFeared_63 : decode cX7_takesFeared 63 = .ok (.ior, 1) := by decide +kernel
theorem dX7_takesFeared_64 : decode cX7_takesFeared 64 = .ok (.iastore, 1) := by decide +kernel
theorem dX7_takesFeared_65 : decode cX7_takesFeared 65 = .ok (.aload_n 0, 1) := by decide +kernel
theorem dX7_takesFeared_66 : decode cX7_takesFeared 66 = .ok (.iload_n 2, 1) := by decide +kernel
theorem dX7_takesFeared_67 : decode cX7_takesFeared 67 = .ok (.putfield 77, 3) := by decide +kernel
theorem dX7_takesFeared_70 : decode cX7_takesFeared 70 = .ok (.aload_n 0, 1) := by decide +kernel
theorem dX7_takesFeared_71 : decode cX7_takesFeared 71 = .ok (.aload_n 0, 1) := by decide +kernel
theorem dX7_takesFeared_72 : decode cX7_takesFeared 72 = .ok (.getfield 29, 3) := by decide +kernel
theorem dX7_takesFeared_75 : decode cX7_takesFeared 75 = .ok (.iconst 4, 1) := by decide +kernel
theorem dX7_takesFeared_76 : decode cX7_takesFeared 76 = .ok (.if_icmp .ne 7, 3) := by decide +kernel
theorem dX7_takesFeared_79 : decode cX7_takesFeared 79 = .ok (.iconst 5, 1) := by decide +kernel
theorem dX7_takesFeared_80 : decode cX7_takesFeared 80 = .ok (.goto 5, 3) := by decide +kernel
theorem dX7_takesFeared_83 : decode cX7_takesFeared 83 = .ok (.bipush 6, 2) := by decide +kernel
theorem dX7_takesFeared_85 : decode cX7_takesFeared 85 = .ok (.putfield 29, 3) := by decide +kernel
theorem dX7_takesFeared_88 : decode cX7_takesFeared 88 = .ok (.iconst 1, 1) := by decide +kernel
theorem dX7_takesFeared_89 : decode cX7_takesFeared 89 = .ok (.ireturn, 1) := by decide +kernel
theorem dX7_takesEnd_0 : decode cX7_takesEnd 0 = .ok (.iload_n 1, 1) := by decide +kernel
theorem dX7_takesEnd_1 : decode cX7_takesEnd 1 = .ok (.bipush 59, 2) := by decide +kernel
theorem dX7_takesEnd_3 : decode cX7_takesEnd 3 = .ok (.if_icmp .eq 5, 3) := by decide +kernel
theorem dX7_takesEnd_6 : decode cX7_takesEnd 6 = .ok (.iconst 0, 1) := by decide +kernel
theorem dX7_takesEnd_7 : decode cX7_takesEnd 7 = .ok (.ireturn, 1) := by decide +kernel
theorem dX7_takesEnd_8 : decode cX7_takesEnd 8 = .ok (.aload_n 0, 1) := by decide +kernel
theorem dX7_takesEnd_9 : decode cX7_takesEnd 9 = .ok (.getfield 18, 3) := by decide +kernel
theorem dX7_takesEnd_12 : decode cX7_takesEnd 12 = .ok (.dup, 1) := by decide +kernel
theorem dX7_takesEnd_13 : decode cX7_takesEnd 13 = .ok (.getfield 55, 3) := by decide +kernel
theorem dX7_takesEnd_16 : decode cX7_takesEnd 16 = .ok (.iconst 1, 1) := by decide +kernel
theorem dX7_takesEnd_17 : decode cX7_takesEnd 17 = .ok (.iadd, 1) := by decide +kernel
theorem dX7_takesEnd_18 : decode cX7_takesEnd 18 = .ok (.putfield 55, 3) := by decide +kernel
theorem dX7_takesEnd_21 : decode cX7_takesEnd 21 = .ok (.aload_n 0, 1) := by decide +kernel
theorem dX7_takesEnd_22 : decode cX7_takesEnd 22 = .ok (.iconst 0, 1) := by decide +kernel
theorem dX7_takesEnd_23 : decode cX7_takesEnd 23 = .ok (.putfield 29, 3) := by decide +kernel
theorem dX7_takesEnd_26 : decode cX7_takesEnd 26 = .ok (.iconst 1, 1) := by decide +kernel
theorem dX7_takesEnd_27 : decode cX7_takesEnd 27 = .ok (.ireturn, 1) := by decide +kernel
theorem dX8_init_0 : decode cX8_init 0 = .ok (.aload_n 0, 1) := by decide +kernel
theorem dX8_init_1 : decode cX8_init 1 = .ok (.invokespecial 3, 3) := by decide +kernel
theorem dX8_init_4 : decode cX8_init 4 = .ok (.aload_n 0, 1) := by decide +kernel
theorem dX8_init_5 : decode cX8_init 5 = .ok (.new 9, 3) := by decide +kernel
theorem dX8_init_8 : decode cX8_init 8 = .ok (.dup, 1) := by decide +kernel
theorem dX8_init_9 : decode cX8_init 9 = .ok (.invokespecial 11, 3) := by decide +kernel
theorem dX8_init_12 : decode cX8_init 12 = .ok (.putfield 12, 3) := by decide +kernel
theorem dX8_init_15 : decode cX8_init 15 = .ok (.aload_n 0, 1) := by decide +kernel
theorem dX8_init_16 : decode cX8_init 16 = .ok (.new 18, 3) := by decide +kernel
theorem dX8_init_19 : decode cX8_init 19 = .ok (.dup, 1) := by decide +kernel
theorem dX8_init_20 : decode cX8_init 20 = .ok (.bipush 6, 2) := by decide +kernel
theorem dX8_init_22 : decode cX8_init 22 = .ok (.invokespecial 20, 3) := by decide +kernel
theorem dX8_init_25 : decode cX8_init 25 = .ok (.putfield 23, 3) := by decide +kernel
theorem dX8_init_28 : decode cX8_init 28 = .ok (.aload_n 0, 1) := by decide +kernel
theorem dX8_init_29 : decode cX8_init 29 = .ok (.new 18, 3) := by decide +kernel
theorem dX8_init_32 : decode cX8_init 32 = .ok (.dup, 1) := by decide +kernel
theorem dX8_init_33 : decode cX8_init 33 = .ok (.iconst 5, 1) := by decide +kernel
theorem dX8_init_34 : decode cX8_init 34 = .ok (.invokespecial 20, 3) := by decide +kernel
theorem dX8_init_37 : decode cX8_init 37 = .ok (.putfield 27, 3) := by decide +kernel
theorem dX8_init_40 : decode cX8_init 40 = .ok (.aload_n 0, 1) := by decide +kernel
theorem dX8_init_41 : decode cX8_init 41 = .ok (.iconst 2, 1) := by decide +kernel
theorem dX8_init_42 : decode cX8_init 42 = .ok (.putfield 30, 3) := by decide +kernel
theorem dX8_init_45 : decode cX8_init 45 = .ok (.return_, 1) := by decide +kernel
theorem dX8_copyFrom_0 : decode cX8_copyFrom 0 = .ok (.aload_n 0, 1) := by decide +kernel
theorem dX8_copyFrom_1 : decode cX8_copyFrom 1 = .ok (.getfield 12, 3) := by decide +kernel
theorem dX8_copyFrom_4 : decode cX8_copyFrom 4 = .ok (.aload_n 1, 1) := by decide +kernel
theorem dX8_copyFrom_5 : decode cX8_copyFrom 5 = .ok (.getfield 12, 3) := by decide +kernel
theorem dX8_copyFrom_8 : decode cX8_copyFrom 8 = .ok (.invokevirtual 34, 3) := by decide +kernel
theorem dX8_copyFrom_11 : decode cX8_copyFrom 11 = .ok (.aload_n 0, 1) := by decide +kernel
theorem dX8_copyFrom_12 : decode cX8_copyFrom 12 = .ok (.getfield 23, 3) := by decide +kernel
theorem dX8_copyFrom_15 : decode cX8_copyFrom 15 = .ok (.aload_n 1, 1) := by decide +kernel
theorem dX8_copyFrom_16 : decode cX8_copyFrom 16 = .ok (.getfield 23, 3) := by decide +kernel
theorem dX8_copyFrom_19 : decode cX8_copyFrom 19 = .ok (.invokevirtual 38, 3) := by decide +kernel
theorem dX8_copyFrom_22 : decode cX8_copyFrom 22 = .ok (.aload_n 0, 1) := by decide +kernel
theorem dX8_copyFrom_23 : decode cX8_copyFrom 23 = .ok (.getfield 27, 3) := by decide +kernel
theorem dX8_copyFrom_26 : decode cX8_copyFrom 26 = .ok (.aload_n 1, 1) := by decide +kernel
theorem dX8_copyFrom_27 : decode cX8_copyFrom 27 = .ok (.getfield 27, 3) := by decide +kernel
theorem dX8_copyFrom_30 : decode cX8_copyFrom 30 = .ok (.invokevirtual 38, 3) := by decide +kernel
theorem dX8_copyFrom_33 : decode cX8_copyFrom 33 = .ok (.aload_n 0, 1) := by decide +kernel
theorem dX8_copyFrom_34 : decode cX8_copyFrom 34 = .ok (.aload_n 1, 1) := by decide +kernel
theorem dX8_copyFrom_35 : decode cX8_copyFrom 35 = .ok (.getfield 30, 3) := by decide +kernel
theorem dX8_copyFrom_38 : decode cX8_copyFrom 38 = .ok (.putfield 30, 3) := by decide +kernel
theorem dX8_copyFrom_41 : decode cX8_copyFrom 41 = .ok (.return_, 1) := by decide +kernel
theorem dX9_init_0 : decode cX9_init 0 = .ok (.aload_n 0, 1) := by decide +kernel
theorem dX9_init_1 : decode cX9_init 1 = .ok (.invokespecial 3, 3) := by decide +kernel
theorem dX9_init_4 : decode cX9_init 4 = .ok (.aload_n 0, 1) := by decide +kernel
theorem dX9_init_5 : decode cX9_init 5 = .ok (.bipush 7, 2) := by decide +kernel
theorem dX9_init_7 : decode cX9_init 7 = .ok (.newarray .int, 2) := by decide +kernel
theorem dX9_init_9 : decode cX9_init 9 = .ok (.putfield 9, 3) := by decide +kernel
theorem dX9_init_12 : decode cX9_init 12 = .ok (.aload_n 0, 1) := by decide +kernel
theorem dX9_init_13 : decode cX9_init 13 = .ok (.bipush 7, 2) := by decide +kernel
theorem dX9_init_15 : decode cX9_init 15 = .ok (.newarray .int, 2) := by decide +kernel
theorem dX9_init_17 : decode cX9_init 17 = .ok (.putfield 15, 3) := by decide +kernel
theorem dX9_init_20 : decode cX9_init 20 = .ok (.aload_n 0, 1) := by decide +kernel
theorem dX9_init_21 : decode cX9_init 21 = .ok (.bipush 7, 2) := by decide +kernel
theorem dX9_init_23 : decode cX9_init 23 = .ok (.newarray .int, 2) := by decide +kernel
theorem dX9_init_25 : decode cX9_init 25 = .ok (.putfield 18, 3) := by decide +kernel
theorem dX9_init_28 : decode cX9_init 28 = .ok (.aload_n 0, 1) := by decide +kernel
theorem dX9_init_29 : decode cX9_init 29 = .ok (.bipush 7, 2) := by decide +kernel
theorem dX9_init_31 : decode cX9_init 31 = .ok (.newarray .int, 2) := by decide +kernel
theorem dX9_init_33 : decode cX9_init 33 = .ok (.putfield 21, 3) := by decide +kernel
theorem dX9_init_36 : decode cX9_init 36 = .ok (.return_, 1) := by decide +kernel
theorem dX9_clear_0 : decode cX9_clear 0 = .ok (.aload_n 0, 1) := by decide +kernel
theorem dX9_clear_1 : decode cX9_clear 1 = .ok (.iconst 0, 1) := by decide +kernel
theorem dX9_clear_2 : decode cX9_clear 2 = .ok (.putfield 24, 3) := by decide +kernel
theorem dX9_clear_5 : decode cX9_clear 5 = .ok (.aload_n 0, 1) := by decide +kernel
theorem dX9_clear_6 : decode cX9_clear 6 = .ok (.iconst 0, 1) := by decide +kernel
theorem dX9_clear_7 : decode cX9_clear 7 = .ok (.putfield 28, 3) := by decide +kernel
theorem dX9_clear_10 : decode cX9_clear 10 = .ok (.iconst 0, 1) := by decide +kernel
theorem dX9_clear_11 : decode cX9_clear 11 = .ok (.istore_n 1, 1) := by decide +kernel
theorem dX9_clear_12 : decode cX9_clear 12 = .ok (.iload_n 1, 1) := by decide +kernel
theorem dX9_clear_13 : decode cX9_clear 13 = .ok (.bipush 7, 2) := by decide +kernel
theorem dX9_clear_15 : decode cX9_clear 15 = .ok (.if_icmp .ge 37, 3) := by decide +kernel
theorem dX9_clear_18 : decode cX9_clear 18 = .ok (.aload_n 0, 1) := by decide +kernel
theorem dX9_clear_19 : decode cX9_clear 19 = .ok (.getfield 9, 3) := by decide +kernel
theorem dX9_clear_22 : decode cX9_clear 22 = .ok (.iload_n 1, 1) := by decide +kernel
theorem dX9_clear_23 : decode cX9_clear 23 = .ok (.iconst 0, 1) := by decide +kernel
theorem dX9_clear_24 : decode cX9_clear 24 = .ok (.iastore, 1) := by decide +kernel
theorem dX9_clear_25 : decode cX9_clear 25 = .ok (.aload_n 0, 1) := by decide +kernel
theorem dX9_clear_26 : decode cX9_clear 26 = .ok (.getfield 15, 3) := by decide +kernel
theorem dX9_clear_29 : decode cX9_clear 29 = .ok (.iload_n 1, 1) := by decide +kernel
theorem dX9_clear_30 : decode cX9_clear 30 = .ok (.iconst 0, 1) := by decide +kernel
theorem dX9_clear_31 : decode cX9_clear 31 = .ok (.iastore, 1) := by decide +kernel
theorem dX9_clear_32 : decode cX9_clear 32 = .ok (.aload_n 0, 1) := by decide +kernel
theorem dX9_clear_33 : decode cX9_clear 33 = .ok (.getfield 18, 3) := by decide +kernel
theorem dX9_clear_36 : decode cX9_clear 36 = .ok (.iload_n 1, 1) := by decide +kernel
theorem dX9_clear_37 : decode cX9_clear 37 = .ok (.iconst 0, 1) := by decide +kernel
theorem dX9_clear_38 : decode cX9_clear 38 = .ok (.iastore, 1) := by decide +kernel
theorem dX9_clear_39 : decode cX9_clear 39 = .ok (.aload_n 0, 1) := by decide +kernel
theorem dX9_clear_40 : decode cX9_clear 40 = .ok (.getfield 21, 3) := by decide +kernel
theorem dX9_clear_43 : decode cX9_clear 43 = .ok (.iload_n 1, 1) := by decide +kernel
theorem dX9_clear_44 : decode cX9_clear 44 = .ok (.iconst (-1), 1) := by decide +kernel
theorem dX9_clear_45 : decode cX9_clear 45 = .ok (.iastore, 1) := by decide +kernel
theorem dX9_clear_46 : decode cX9_clear 46 = .ok (.iinc 1 1, 3) := by decide +kernel
theorem dX9_clear_49 : decode cX9_clear 49 = .ok (.goto (-37), 3) := by decide +kernel
theorem dX9_clear_52 : decode cX9_clear 52 = .ok (.return_, 1) := by decide +kernel
theorem dX9_copyFrom_0 : decode cX9_copyFrom 0 = .ok (.aload_n 0, 1) := by decide +kernel
theorem dX9_copyFrom_1 : decode cX9_copyFrom 1 = .ok (.aload_n 1, 1) := by decide +kernel
theorem dX9_copyFrom_2 : decode cX9_copyFrom 2 = .ok (.getfield 24, 3) := by decide +kernel
theorem dX9_copyFrom_5 : decode cX9_copyFrom 5 = .ok (.putfield 24, 3) := by decide +kernel
theorem dX9_copyFrom_8 : decode cX9_copyFrom 8 = .ok (.aload_n 0, 1) := by decide +kernel
theorem dX9_copyFrom_9 : decode cX9_copyFrom 9 = .ok (.aload_n 1, 1) := by decide +kernel
theorem dX9_copyFrom_10 : decode cX9_copyFrom 10 = .ok (.getfield 28, 3) := by decide +kernel
theorem dX9_copyFrom_13 : decode cX9_copyFrom 13 = .ok (.putfield 28, 3) := by decide +kernel
theorem dX9_copyFrom_16 : decode cX9_copyFrom 16 = .ok (.aload_n 1, 1) := by decide +kernel
theorem dX9_copyFrom_17 : decode cX9_copyFrom 17 = .ok (.getfield 9, 3) := by decide +kernel
theorem dX9_copyFrom_20 : decode cX9_copyFrom 20 = .ok (.iconst 0, 1) := by decide +kernel
theorem dX9_copyFrom_21 : decode cX9_copyFrom 21 = .ok (.aload_n 0, 1) := by decide +kernel
theorem dX9_copyFrom_22 : decode cX9_copyFrom 22 = .ok (.getfield 9, 3) := by decide +kernel
theorem dX9_copyFrom_25 : decode cX9_copyFrom 25 = .ok (.iconst 0, 1) := by decide +kernel
theorem dX9_copyFrom_26 : decode cX9_copyFrom 26 = .ok (.bipush 7, 2) := by decide +kernel
theorem dX9_copyFrom_28 : decode cX9_copyFrom 28 = .ok (.invokestatic 31, 3) := by decide +kernel
theorem dX9_copyFrom_31 : decode cX9_copyFrom 31 = .ok (.aload_n 1, 1) := by decide +kernel
theorem dX9_copyFrom_32 : decode cX9_copyFrom 32 = .ok (.getfield 15, 3) := by decide +kernel
theorem dX9_copyFrom_35 : decode cX9_copyFrom 35 = .ok (.iconst 0, 1) := by decide +kernel
theorem dX9_copyFrom_36 : decode cX9_copyFrom 36 = .ok (.aload_n 0, 1) := by decide +kernel
theorem dX9_copyFrom_37 : decode cX9_copyFrom 37 = .ok (.getfield 15, 3) := by decide +kernel
theorem dX9_copyFrom_40 : decode cX9_copyFrom 40 = .ok (.iconst 0, 1) := by decide +kernel
theorem dX9_copyFrom_41 : decode cX9_copyFrom 41 = .ok (.bipush 7, 2) := by decide +kernel
theorem dX9_copyFrom_43 : decode cX9_copyFrom 43 = .ok (.invokestatic 31, 3) := by decide +kernel
theorem dX9_copyFrom_46 : decode cX9_copyFrom 46 = .ok (.aload_n 1, 1) := by decide +kernel
theorem dX9_copyFrom_47 : decode cX9_copyFrom 47 = .ok (.getfield 18, 3) := by decide +kernel
theorem dX9_copyFrom_50 : decode cX9_copyFrom 50 = .ok (.iconst 0, 1) := by decide +kernel
theorem dX9_copyFrom_51 : decode cX9_copyFrom 51 = .ok (.aload_n 0, 1) := by decide +kernel
theorem dX9_copyFrom_52 : decode cX9_copyFrom 52 = .ok (.getfield 18, 3) := by decide +kernel
theorem dX9_copyFrom_55 : decode cX9_copyFrom 55 = .ok (.iconst 0, 1) := by decide +kernel
theorem dX9_copyFrom_56 : decode cX9_copyFrom 56 = .ok (.bipush 7, 2) := by decide +kernel
theorem dX9_copyFrom_58 : decode cX9_copyFrom 58 = .ok (.invokestatic 31, 3) := by decide +kernel
theorem dX9_copyFrom_61 : decode cX9_copyFrom 61 = .ok (.aload_n 1, 1) := by decide +kernel
theorem dX9_copyFrom_62 : decode cX9_copyFrom 62 = .ok (.getfield 21, 3) := by decide +kernel
theorem dX9_copyFrom_65 : decode cX9_copyFrom 65 = .ok (.iconst 0, 1) := by decide +kernel
theorem dX9_copyFrom_66 : decode cX9_copyFrom 66 = .ok (.aload_n 0, 1) := by decide +kernel
theorem dX9_copyFrom_67 : decode cX9_copyFrom 67 = .ok (.getfield 21, 3) := by decide +kernel
theorem dX9_copyFrom_70 : decode cX9_copyFrom 70 = .ok (.iconst 0, 1) := by decide +kernel
theorem dX9_copyFrom_71 : decode cX9_copyFrom 71 = .ok (.bipush 7, 2) := by decide +kernel
theorem dX9_copyFrom_73 : decode cX9_copyFrom 73 = .ok (.invokestatic 31, 3) := by decide +kernel
theorem dX9_copyFrom_76 : decode cX9_copyFrom 76 = .ok (.return_, 1) := by decide +kernel
theorem dX9_has_0 : decode cX9_has 0 = .ok (.iload_n 1, 1) := by decide +kernel
theorem dX9_has_1 : decode cX9_has 1 = .ok (.ifCond .lt 15, 3) := by decide +kernel
theorem dX9_has_4 : decode cX9_has 4 = .ok (.iload_n 1, 1) := by decide +kernel
theorem dX9_has_5 : decode cX9_has 5 = .ok (.aload_n 0, 1) := by decide +kernel
theorem dX9_has_6 : decode cX9_has 6 = .ok (.getfield 24, 3) := by decide +kernel
theorem dX9_has_9 : decode cX9_has 9 = .ok (.if_icmp .ge 7, 3) := by decide +kernel
theorem dX9_has_12 : decode cX9_has 12 = .ok (.iconst 1, 1) := by decide +kernel
theorem dX9_has_13 : decode cX9_has 13 = .ok (.goto 4, 3) := by decide +kernel
theorem dX9_has_16 : decode cX9_has 16 = .ok (.iconst 0, 1) := by decide +kernel
theorem dX9_has_17 : decode cX9_has 17 = .ok (.ireturn, 1) := by decide +kernel
theorem dX9_isTold_0 : decode cX9_isTold 0 = .ok (.aload_n 0, 1) := by decide +kernel
theorem dX9_isTold_1 : decode cX9_isTold 1 = .ok (.getfield 28, 3) := by decide +kernel
theorem dX9_isTold_4 : decode cX9_isTold 4 = .ok (.iload_n 1, 1) := by decide +kernel
theorem dX9_isTold_5 : decode cX9_isTold 5 = .ok (.ishr, 1) := by decide +kernel
theorem dX9_isTold_6 : decode cX9_isTold 6 = .ok (.iconst 1, 1) := by decide +kernel
theorem dX9_isTold_7 : decode cX9_isTold 7 = .ok (.iand, 1) := by decide +kernel
theorem dX9_isTold_8 : decode cX9_isTold 8 = .ok (.ifCond .ne 7, 3) := by decide +kernel
theorem dX9_isTold_11 : decode cX9_isTold 11 = .ok (.iconst 1, 1) := by decide +kernel
theorem dX9_isTold_12 : decode cX9_isTold 12 = .ok (.goto 4, 3) := by decide +kernel
theorem dX9_isTold_15 : decode cX9_isTold 15 = .ok (.iconst 0, 1) := by decide +kernel
theorem dX9_isTold_16 : decode cX9_isTold 16 = .ok (.ireturn, 1) := by decide +kernel
theorem dX9_isDead_0 : decode cX9_isDead 0 = .ok (.aload_n 0, 1) := by decide +kernel
theorem dX9_isDead_1 : decode cX9_isDead 1 = .ok (.getfield 9, 3) := by decide +kernel
theorem dX9_isDead_4 : decode cX9_isDead 4 = .ok (.iload_n 1, 1) := by decide +kernel
theorem dX9_isDead_5 : decode cX9_isDead 5 = .ok (.iaload, 1) := by decide +kernel
theorem dX9_isDead_6 : decode cX9_isDead 6 = .ok (.ifCond .ne 7, 3) := by decide +kernel
theorem dX9_isDead_9 : decode cX9_isDead 9 = .ok (.iconst 1, 1) := by decide +kernel
theorem dX9_isDead_10 : decode cX9_isDead 10 = .ok (.goto 4, 3) := by decide +kernel
theorem dX9_isDead_13 : decode cX9_isDead 13 = .ok (.iconst 0, 1) := by decide +kernel
theorem dX9_isDead_14 : decode cX9_isDead 14 = .ok (.ireturn, 1) := by decide +kernel
theorem dX9_living_0 : decode cX9_living 0 = .ok (.iconst 0, 1) := by decide +kernel
theorem dX9_living_1 : decode cX9_living 1 = .ok (.istore_n 1, 1) := by decide +kernel
theorem dX9_living_2 : decode cX9_living 2 = .ok (.iconst 0, 1) := by decide +kernel
theorem dX9_living_3 : decode cX9_living 3 = .ok (.istore_n 2, 1) := by decide +kernel
theorem dX9_living_4 : decode cX9_living 4 = .ok (.iload_n 2, 1) := by decide +kernel
theorem dX9_living_5 : decode cX9_living 5 = .ok (.aload_n 0, 1) := by decide +kernel
theorem dX9_living_6 : decode cX9_living 6 = .ok (.getfield 24, 3) := by decide +kernel
theorem dX9_living_9 : decode cX9_living 9 = .ok (.if_icmp .ge 23, 3) := by decide +kernel
theorem dX9_living_12 : decode cX9_living 12 = .ok (.aload_n 0, 1) := by decide +kernel
theorem dX9_living_13 : decode cX9_living 13 = .ok (.iload_n 2, 1) := by decide +kernel
theorem dX9_living_14 : decode cX9_living 14 = .ok (.invokevirtual 37, 3) := by decide +kernel
theorem dX9_living_17 : decode cX9_living 17 = .ok (.ifCond .ne 9, 3) := by decide +kernel
theorem dX9_living_20 : decode cX9_living 20 = .ok (.iload_n 1, 1) := by decide +kernel
theorem dX9_living_21 : decode cX9_living 21 = .ok (.iconst 1, 1) := by decide +kernel
theorem dX9_living_22 : decode cX9_living 22 = .ok (.iload_n 2, 1) := by decide +kernel
theorem dX9_living_23 : decode cX9_living 23 = .ok (.ishl, 1) := by decide +kernel
theorem dX9_living_24 : decode cX9_living 24 = .ok (.ior, 1) := by decide +kernel
theorem dX9_living_25 : decode cX9_living 25 = .ok (.istore_n 1, 1) := by decide +kernel
theorem dX9_living_26 : decode cX9_living 26 = .ok (.iinc 2 1, 3) := by decide +kernel
theorem dX9_living_29 : decode cX9_living 29 = .ok (.goto (-25), 3) := by decide +kernel
theorem dX9_living_32 : decode cX9_living 32 = .ok (.iload_n 1, 1) := by decide +kernel
theorem dX9_living_33 : decode cX9_living 33 = .ok (.ireturn, 1) := by decide +kernel
theorem dX9_halvesOf_0 : decode cX9_halvesOf 0 = .ok (.iconst 0, 1) := by decide +kernel
theorem dX9_halvesOf_1 : decode cX9_halvesOf 1 = .ok (.istore_n 2, 1) := by decide +kernel
theorem dX9_halvesOf_2 : decode cX9_halvesOf 2 = .ok (.iconst 0, 1) := by decide +kernel
theorem dX9_halvesOf_3 : decode cX9_halvesOf 3 = .ok (.istore_n 3, 1) := by decide +kernel
theorem dX9_halvesOf_4 : decode cX9_halvesOf 4 = .ok (.iload_n 3, 1) := by decide +kernel
theorem dX9_halvesOf_5 : decode cX9_halvesOf 5 = .ok (.aload_n 0, 1) := by decide +kernel
theorem dX9_halvesOf_6 : decode cX9_halvesOf 6 = .ok (.getfield 24, 3) := by decide +kernel
theorem dX9_halvesOf_9 : decode cX9_halvesOf 9 = .ok (.if_icmp .ge 27, 3) := by decide +kernel
theorem dX9_halvesOf_12 : decode cX9_halvesOf 12 = .ok (.iload_n 1, 1) := by decide +kernel
theorem dX9_halvesOf_13 : decode cX9_halvesOf 13 = .ok (.iload_n 3, 1) := by decide +kernel
theorem dX9_halvesOf_14 : decode cX9_halvesOf 14 = .ok (.ishr, 1) := by decide +kernel
theorem dX9_halvesOf_15 : decode cX9_halvesOf 15 = .ok (.iconst 1, 1) := by decide +kernel
theorem dX9_halvesOf_16 : decode cX9_halvesOf 16 = .ok (.iand, 1) := by decide +kernel
theorem dX9_halvesOf_17 : decode cX9_halvesOf 17 = .ok (.iconst 1, 1) := by decide +kernel
theorem dX9_halvesOf_18 : decode cX9_halvesOf 18 = .ok (.if_icmp .ne 12, 3) := by decide +kernel
theorem dX9_halvesOf_21 : decode cX9_halvesOf 21 = .ok (.iload_n 2, 1) := by decide +kernel
theorem dX9_halvesOf_22 : decode cX9_halvesOf 22 = .ok (.aload_n 0, 1) := by decide +kernel
theorem dX9_halvesOf_23 : decode cX9_halvesOf 23 = .ok (.getfield 9, 3) := by decide +kernel
theorem dX9_halvesOf_26 : decode cX9_halvesOf 26 = .ok (.iload_n 3, 1) := by decide +kernel
theorem dX9_halvesOf_27 : decode cX9_halvesOf 27 = .ok (.iaload, 1) := by decide +kernel
theorem dX9_halvesOf_28 : decode cX9_halvesOf 28 = .ok (.iadd, 1) := by decide +kernel
theorem dX9_halvesOf_29 : decode cX9_halvesOf 29 = .ok (.istore_n 2, 1) := by decide +kernel
theorem dX9_halvesOf_30 : decode cX9_halvesOf 30 = .ok (.iinc 3 1, 3) := by decide +kernel
theorem dX9_halvesOf_33 : decode cX9_halvesOf 33 = .ok (.goto (-29), 3) := by decide +kernel
theorem dX9_halvesOf_36 : decode cX9_halvesOf 36 = .ok (.iload_n 2, 1) := by decide +kernel
theorem dX9_halvesOf_37 : decode cX9_halvesOf 37 = .ok (.ireturn, 1) := by decide +kernel
theorem dX9_bury_0 : decode cX9_bury 0 = .ok (.aload_n 0, 1) := by decide +kernel
theorem dX9_bury_1 : decode cX9_bury 1 = .ok (.getfield 9, 3) := by decide +kernel
theorem dX9_bury_4 : decode cX9_bury 4 = .ok (.iload_n 1, 1) := by decide +kernel
theorem dX9_bury_5 : decode cX9_bury 5 = .ok (.iaload, 1) := by decide +kernel
theorem dX9_bury_6 : decode cX9_bury 6 = .ok (.istore_n 2, 1) := by decide +kernel
theorem dX9_bury_7 : decode cX9_bury 7 = .ok (.aload_n 0, 1) := by decide +kernel
theorem dX9_bury_8 : decode cX9_bury 8 = .ok (.getfield 9, 3) := by decide +kernel
theorem dX9_bury_11 : decode cX9_bury 11 = .ok (.iload_n 1, 1) := by decide +kernel
theorem dX9_bury_12 : decode cX9_bury 12 = .ok (.iconst 0, 1) := by decide +kernel
theorem dX9_bury_13 : decode cX9_bury 13 = .ok (.iastore, 1) := by decide +kernel
theorem dX9_bury_14 : decode cX9_bury 14 = .ok (.aload_n 0, 1) := by decide +kernel
theorem dX9_bury_15 : decode cX9_bury 15 = .ok (.iload_n 1, 1) := by decide +kernel
theorem dX9_bury_16 : decode cX9_bury 16 = .ok (.invokevirtual 41, 3) := by decide +kernel
theorem dX9_bury_19 : decode cX9_bury 19 = .ok (.istore_n 3, 1) := by decide +kernel
theorem dX9_bury_20 : decode cX9_bury 20 = .ok (.iload_n 3, 1) := by decide +kernel
theorem dX9_bury_21 : decode cX9_bury 21 = .ok (.iconst (-1), 1) := by decide +kernel
theorem dX9_bury_22 : decode cX9_bury 22 = .ok (.if_icmp .ne 5, 3) := by decide +kernel
theorem dX9_bury_25 : decode cX9_bury 25 = .ok (.iload_n 2, 1) := by decide +kernel
theorem dX9_bury_26 : decode cX9_bury 26 = .ok (.ireturn, 1) := by decide +kernel
theorem dX9_bury_27 : decode cX9_bury 27 = .ok (.aload_n 0, 1) := by decide +kernel
theorem dX9_bury_28 : decode cX9_bury 28 = .ok (.getfield 9, 3) := by decide +kernel
theorem dX9_bury_31 : decode cX9_bury 31 = .ok (.iload_n 3, 1) := by decide +kernel
theorem dX9_bury_32 : decode cX9_bury 32 = .ok (.iaload, 1) := by decide +kernel
theorem dX9_bury_33 : decode cX9_bury 33 = .ok (.iload_n 2, 1) := by decide +kernel
theorem dX9_bury_34 : decode cX9_bury 34 = .ok (.iadd, 1) := by decide +kernel
theorem dX9_bury_35 : decode cX9_bury 35 = .ok (.istore 4, 2) := by decide +kernel
theorem dX9_bury_37 : decode cX9_bury 37 = .ok (.aload_n 0, 1) := by decide +kernel
theorem dX9_bury_38 : decode cX9_bury 38 = .ok (.getfield 9, 3) := by decide +kernel
theorem dX9_bury_41 : decode cX9_bury 41 = .ok (.iload_n 3, 1) := by decide +kernel
theorem dX9_bury_42 : decode cX9_bury 42 = .ok (.iload 4, 2) := by decide +kernel
theorem dX9_bury_44 : decode cX9_bury 44 = .ok (.bipush 9, 2) := by decide +kernel
theorem dX9_bury_46 : decode cX9_bury 46 = .ok (.invokestatic 45, 3) := by decide +kernel
theorem dX9_bury_49 : decode cX9_bury 49 = .ok (.iastore, 1) := by decide +kernel
theorem dX9_bury_50 : decode cX9_bury 50 = .ok (.iload 4, 2) := by decide +kernel
theorem dX9_bury_52 : decode cX9_bury 52 = .ok (.aload_n 0, 1) := by decide +kernel
theorem dX9_bury_53 : decode cX9_bury 53 = .ok (.getfield 9, 3) := by decide +kernel
theorem dX9_bury_56 : decode cX9_bury 56 = .ok (.iload_n 3, 1) := by decide +kernel
theorem dX9_bury_57 : decode cX9_bury 57 = .ok (.iaload, 1) := by decide +kernel
theorem dX9_bury_58 : decode cX9_bury 58 = .ok (.isub, 1) := by decide +kernel
theorem dX9_bury_59 : decode cX9_bury 59 = .ok (.ireturn, 1) := by decide +kernel
theorem dX9_livingHeirOf_0 : decode cX9_livingHeirOf 0 = .ok (.aload_n 0, 1) := by decide +kernel
theorem dX9_livingHeirOf_1 : decode cX9_livingHeirOf 1 = .ok (.getfield 21, 3) := by decide +kernel
theorem dX9_livingHeirOf_4 : decode cX9_livingHeirOf 4 = .ok (.iload_n 1, 1) := by decide +kernel
theorem dX9_livingHeirOf_5 : decode cX9_livingHeirOf 5 = .ok (.iaload, 1) := by decide +kernel
theorem dX9_livingHeirOf_6 : decode cX9_livingHeirOf 6 = .ok (.istore_n 2, 1) := by decide +kernel
theorem dX9_livingHeirOf_7 : decode cX9_livingHeirOf 7 = .ok (.iconst 0, 1) := by decide +kernel
theorem dX9_livingHeirOf_8 : decode cX9_livingHeirOf 8 = .ok (.istore_n 3, 1) := by decide +kernel
theorem dX9_livingHeirOf_9 : decode cX9_livingHeirOf 9 = .ok (.iload_n 3, 1) := by decide +kernel
theorem dX9_livingHeirOf_10 : decode cX9_livingHeirOf 10 = .ok (.aload_n 0, 1) := by decide +kernel
theorem dX9_livingHeirOf_11 : decode cX9_livingHeirOf 11 = .ok (.getfield 24, 3) := by decide +kernel
theorem dX9_livingHeirOf_14 : decode cX9_livingHeirOf 14 = .ok (.if_icmp .ge 34, 3) := by decide +kernel
theorem dX9_livingHeirOf_17 : decode cX9_livingHeirOf 17 = .ok (.aload_n 0, 1) := by decide +kernel
theorem dX9_livingHeirOf_18 : decode cX9_livingHeirOf 18 = .ok (.iload_n 2, 1) := by decide +kernel
theorem dX9_livingHeirOf_19 : decode cX9_livingHeirOf 19 = .ok (.invokevirtual 51, 3) := by decide +kernel
theorem dX9_livingHeirOf_22 : decode cX9_livingHeirOf 22 = .ok (.ifCond .eq 26, 3) := by decide +kernel
theorem dX9_livingHeirOf_25 : decode cX9_livingHeirOf 25 = .ok (.aload_n 0, 1) := by decide +kernel
theorem dX9_livingHeirOf_26 : decode cX9_livingHeirOf 26 = .ok (.iload_n 2, 1) := by decide +kernel
theorem dX9_livingHeirOf_27 : decode cX9_livingHeirOf 27 = .ok (.invokevirtual 37, 3) := by decide +kernel
theorem dX9_livingHeirOf_30 : decode cX9_livingHeirOf 30 = .ok (.ifCond .ne 5, 3) := by decide +kernel
theorem dX9_livingHeirOf_33 : decode cX9_livingHeirOf 33 = .ok (.iload_n 2, 1) := by decide +kernel
theorem dX9_livingHeirOf_34 : decode cX9_livingHeirOf 34 = .ok (.ireturn, 1) := by decide +kernel
theorem dX9_livingHeirOf_35 : decode cX9_livingHeirOf 35 = .ok (.aload_n 0, 1) := by decide +kernel
theorem dX9_livingHeirOf_36 : decode cX9_livingHeirOf 36 = .ok (.getfield 21, 3) := by decide +kernel
theorem dX9_livingHeirOf_39 : decode cX9_livingHeirOf 39 = .ok (.iload_n 2, 1) := by decide +kernel
theorem dX9_livingHeirOf_40 : decode cX9_livingHeirOf 40 = .ok (.iaload, 1) := by decide +kernel
theorem dX9_livingHeirOf_41 : decode cX9_livingHeirOf 41 = .ok (.istore_n 2, 1) := by decide +kernel
theorem dX9_livingHeirOf_42 : decode cX9_livingHeirOf 42 = .ok (.iinc 3 1, 3) := by decide +kernel
theorem dX9_livingHeirOf_45 : decode cX9_livingHeirOf 45 = .ok (.goto (-36), 3) := by decide +kernel
theorem dX9_livingHeirOf_48 : decode cX9_livingHeirOf 48 = .ok (.iconst (-1), 1) := by decide +kernel
theorem dX9_livingHeirOf_49 : decode cX9_livingHeirOf 49 = .ok (.ireturn, 1) := by decide +kernel
theorem dX10_init_0 : decode cX10_init 0 = .ok (.aload_n 0, 1) := by decide +kernel
theorem dX10_init_1 : decode cX10_init 1 = .ok (.invokespecial 1, 3) := by decide +kernel
theorem dX10_init_4 : decode cX10_init 4 = .ok (.iconst 0, 1) := by decide +kernel
theorem dX10_init_5 : decode cX10_init 5 = .ok (.iload_n 1, 1) := by decide +kernel
theorem dX10_init_6 : decode cX10_init 6 = .ok (.invokestatic 7, 3) := by decide +kernel
theorem dX10_init_9 : decode cX10_init 9 = .ok (.istore_n 2, 1) := by decide +kernel
theorem dX10_init_10 : decode cX10_init 10 = .ok (.aload_n 0, 1) := by decide +kernel
theorem dX10_init_11 : decode cX10_init 11 = .ok (.iload_n 2, 1) := by decide +kernel
theorem dX10_init_12 : decode cX10_init 12 = .ok (.newarray .int, 2) := by decide +kernel
theorem dX10_init_14 : decode cX10_init 14 = .ok (.putfield 13, 3) := by decide +kernel
theorem dX10_init_17 : decode cX10_init 17 = .ok (.aload_n 0, 1) := by decide +kernel
theorem dX10_init_18 : decode cX10_init 18 = .ok (.iload_n 2, 1) := by decide +kernel
theorem dX10_init_19 : decode cX10_init 19 = .ok (.newarray .int, 2) := by decide +kernel
theorem dX10_init_21 : decode cX10_init 21 = .ok (.putfield 19, 3) := by decide +kernel
theorem dX10_init_24 : decode cX10_init 24 = .ok (.aload_n 0, 1) := by decide +kernel
theorem dX10_init_25 : decode cX10_init 25 = .ok (.iload_n 2, 1) := by decide +kernel
theorem dX10_init_26 : decode cX10_init 26 = .ok (.newarray .int, 2) := by decide +kernel
theorem dX10_init_28 : decode cX10_init 28 = .ok (.putfield 22, 3) := by decide +kernel
theorem dX10_init_31 : decode cX10_init 31 = .ok (.return_, 1) := by decide +kernel
theorem dX10_add_0 : decode cX10_add 0 = .ok (.aload_n 0, 1) := by decide +kernel
theorem dX10_add_1 : decode cX10_add 1 = .ok (.getfield 25, 3) := by decide +kernel
theorem dX10_add_4 : decode cX10_add 4 = .ok (.aload_n 0, 1) := by decide +kernel
theorem dX10_add_5 : decode cX10_add 5 = .ok (.getfield 22, 3) := by decide +kernel
theorem dX10_add_8 : decode cX10_add 8 = .ok (.arraylength, 1) := by decide +kernel
theorem dX10_add_9 : decode cX10_add 9 = .ok (.if_icmp .lt 5, 3) := by decide +kernel
theorem dX10_add_12 : decode cX10_add 12 = .ok (.iconst 0, 1) := by decide +kernel
theorem dX10_add_13 : decode cX10_add 13 = .ok (.ireturn, 1) := by decide +kernel
theorem dX10_add_14 : decode cX10_add 14 = .ok (.aload_n 0, 1) := by decide +kernel
theorem dX10_add_15 : decode cX10_add 15 = .ok (.getfield 13, 3) := by decide +kernel
theorem dX10_add_18 : decode cX10_add 18 = .ok (.aload_n 0, 1) := by decide +kernel
theorem dX10_add_19 : decode cX10_add 19 = .ok (.getfield 25, 3) := by decide +kernel
theorem dX10_add_22 : decode cX10_add 22 = .ok (.iload_n 1, 1) := by decide +kernel
theorem dX10_add_23 : decode cX10_add 23 = .ok (.iastore, 1) := by decide +kernel
theorem dX10_add_24 : decode cX10_add 24 = .ok (.aload_n 0, 1) := by decide +kernel
theorem dX10_add_25 : decode cX10_add 25 = .ok (.getfield 19, 3) := by decide +kernel
theorem dX10_add_28 : decode cX10_add 28 = .ok (.aload_n 0, 1) := by decide +kernel
theorem dX10_add_29 : decode cX10_add 29 = .ok (.getfield 25, 3) := by decide +kernel
theorem dX10_add_32 : decode cX10_add 32 = .ok (.iload_n 2, 1) := by decide +kernel
theorem dX10_add_33 : decode cX10_add 33 = .ok (.iastore, 1) := by decide +kernel
theorem dX10_add_34 : decode cX10_add 34 = .ok (.aload_n 0, 1) := by decide +kernel
theorem dX10_add_35 : decode cX10_add 35 = .ok (.getfield 22, 3) := by decide +kernel
theorem dX10_add_38 : decode cX10_add 38 = .ok (.aload_n 0, 1) := by decide +kernel
theorem dX10_add_39 : decode cX10_add 39 = .ok (.getfield 25, 3) := by decide +kernel
theorem dX10_add_42 : decode cX10_add 42 = .ok (.iload_n 3, 1) := by decide +kernel
theorem dX10_add_43 : decode cX10_add 43 = .ok (.iastore, 1) := by decide +kernel
theorem dX10_add_44 : decode cX10_add 44 = .ok (.aload_n 0, 1) := by decide +kernel
theorem dX10_add_45 : decode cX10_add 45 = .ok (.dup, 1) := by decide +kernel
theorem dX10_add_46 : decode cX10_add 46 = .ok (.getfield 25, 3) := by decide +kernel
theorem dX10_add_49 : decode cX10_add 49 = .ok (.iconst 1, 1) := by decide +kernel
theorem dX10_add_50 : decode cX10_add 50 = .ok (.iadd, 1) := by decide +kernel
theorem dX10_add_51 : decode cX10_add 51 = .ok (.putfield 25, 3) := by decide +kernel
theorem dX10_add_54 : decode cX10_add 54 = .ok (.iconst 1, 1) := by decide +kernel
theorem dX10_add_55 : decode cX10_add 55 = .ok (.ireturn, 1) := by decide +kernel
theorem dX10_copyFrom_0 : decode cX10_copyFrom 0 = .ok (.aload_n 0, 1) := by decide +kernel
theorem dX10_copyFrom_1 : decode cX10_copyFrom 1 = .ok (.iconst 0, 1) := by decide +kernel
theorem dX10_copyFrom_2 : decode cX10_copyFrom 2 = .ok (.putfield 25, 3) := by decide +kernel
theorem dX10_copyFrom_5 : decode cX10_copyFrom 5 = .ok (.iconst 0, 1) := by decide +kernel
theorem dX10_copyFrom_6 : decode cX10_copyFrom 6 = .ok (.istore_n 2, 1) := by decide +kernel
theorem dX10_copyFrom_7 : decode cX10_copyFrom 7 = .ok (.iload_n 2, 1) := by decide +kernel
theorem dX10_copyFrom_8 : decode cX10_copyFrom 8 = .ok (.aload_n 1, 1) := by decide +kernel
theorem dX10_copyFrom_9 : decode cX10_copyFrom 9 = .ok (.getfield 25, 3) := by decide +kernel
theorem dX10_copyFrom_12 : decode cX10_copyFrom 12 = .ok (.if_icmp .ge 32, 3) := by decide +kernel
theorem dX10_copyFrom_15 : decode cX10_copyFrom 15 = .ok (.aload_n 0, 1) := by decide +kernel
theorem dX10_copyFrom_16 : decode cX10_copyFrom 16 = .ok (.aload_n 1, 1) := by decide +kernel
theorem dX10_copyFrom_17 : decode cX10_copyFrom 17 = .ok (.getfield 13, 3) := by decide +kernel
theorem dX10_copyFrom_20 : decode cX10_copyFrom 20 = .ok (.iload_n 2, 1) := by decide +kernel
theorem dX10_copyFrom_21 : decode cX10_copyFrom 21 = .ok (.iaload, 1) := by decide +kernel
theorem dX10_copyFrom_22 : decode cX10_copyFrom 22 = .ok (.aload_n 1, 1) := by decide +kernel
theorem dX10_copyFrom_23 : decode cX10_copyFrom 23 = .ok (.getfield 19, 3) := by decide +kernel
theorem dX10_copyFrom_26 : decode cX10_copyFrom 26 = .ok (.iload_n 2, 1) := by decide +kernel
theorem dX10_copyFrom_27 : decode cX10_copyFrom 27 = .ok (.iaload, 1) := by decide +kernel
theorem dX10_copyFrom_28 : decode cX10_copyFrom 28 = .ok (.aload_n 1, 1) := by decide +kernel
theorem dX10_copyFrom_29 : decode cX10_copyFrom 29 = .ok (.getfield 22, 3) := by decide +kernel
theorem dX10_copyFrom_32 : decode cX10_copyFrom 32 = .ok (.iload_n 2, 1) := by decide +kernel
theorem dX10_copyFrom_33 : decode cX10_copyFrom 33 = .ok (.iaload, 1) := by decide +kernel
theorem dX10_copyFrom_34 : decode cX10_copyFrom 34 = .ok (.invokevirtual 29, 3) := by decide +kernel
theorem dX10_copyFrom_37 : decode cX10_copyFrom 37 = .ok (.pop, 1) := by decide +kernel
theorem dX10_copyFrom_38 : decode cX10_copyFrom 38 = .ok (.iinc 2 1, 3) := by decide +kernel
theorem dX10_copyFrom_41 : decode cX10_copyFrom 41 = .ok (.goto (-34), 3) := by decide +kernel
theorem dX10_copyFrom_44 : decode cX10_copyFrom 44 = .ok (.return_, 1) := by decide +kernel
theorem dJ6_bitCount_0f7a4_0 : decode cJ6_bitCount_0f7a4 0 = .ok (.iload_n 0, 1) := by decide +kernel
theorem dJ6_bitCount_0f7a4_1 : decode cJ6_bitCount_0f7a4 1 = .ok (.iload_n 0, 1) := by decide +kernel
theorem dJ6_bitCount_0f7a4_2 : decode cJ6_bitCount_0f7a4 2 = .ok (.iconst 1, 1) := by decide +kernel
theorem dJ6_bitCount_0f7a4_3 : decode cJ6_bitCount_0f7a4 3 = .ok (.iushr, 1) := by decide +kernel
theorem dJ6_bitCount_0f7a4_4 : decode cJ6_bitCount_0f7a4 4 = .ok (.ldc_w 265, 3) := by decide +kernel
theorem dJ6_bitCount_0f7a4_7 : decode cJ6_bitCount_0f7a4 7 = .ok (.iand, 1) := by decide +kernel
theorem dJ6_bitCount_0f7a4_8 : decode cJ6_bitCount_0f7a4 8 = .ok (.isub, 1) := by decide +kernel
theorem dJ6_bitCount_0f7a4_9 : decode cJ6_bitCount_0f7a4 9 = .ok (.istore_n 0, 1) := by decide +kernel
theorem dJ6_bitCount_0f7a4_10 : decode cJ6_bitCount_0f7a4 10 = .ok (.iload_n 0, 1) := by decide +kernel
theorem dJ6_bitCount_0f7a4_11 : decode cJ6_bitCount_0f7a4 11 = .ok (.ldc_w 266, 3) := by decide +kernel
theorem dJ6_bitCount_0f7a4_14 : decode cJ6_bitCount_0f7a4 14 = .ok (.iand, 1) := by decide +kernel
theorem dJ6_bitCount_0f7a4_15 : decode cJ6_bitCount_0f7a4 15 = .ok (.iload_n 0, 1) := by decide +kernel
theorem dJ6_bitCount_0f7a4_16 : decode cJ6_bitCount_0f7a4 16 = .ok (.iconst 2, 1) := by decide +kernel
theorem dJ6_bitCount_0f7a4_17 : decode cJ6_bitCount_0f7a4 17 = .ok (.iushr, 1) := by decide +kernel
theorem dJ6_bitCount_0f7a4_18 : decode cJ6_bitCount_0f7a4 18 = .ok (.ldc_w 266, 3) := by decide +kernel
theorem dJ6_bitCount_0f7a4_21 : decode cJ6_bitCount_0f7a4 21 = .ok (.iand, 1) := by decide +kernel
theorem dJ6_bitCount_0f7a4_22 : decode cJ6_bitCount_0f7a4 22 = .ok (.iadd, 1) := by decide +kernel
theorem dJ6_bitCount_0f7a4_23 : decode cJ6_bitCount_0f7a4 23 = .ok (.istore_n 0, 1) := by decide +kernel
theorem dJ6_bitCount_0f7a4_24 : decode cJ6_bitCount_0f7a4 24 = .ok (.iload_n 0, 1) := by decide +kernel
theorem dJ6_bitCount_0f7a4_25 : decode cJ6_bitCount_0f7a4 25 = .ok (.iload_n 0, 1) := by decide +kernel
theorem dJ6_bitCount_0f7a4_26 : decode cJ6_bitCount_0f7a4 26 = .ok (.iconst 4, 1) := by decide +kernel
theorem dJ6_bitCount_0f7a4_27 : decode cJ6_bitCount_0f7a4 27 = .ok (.iushr, 1) := by decide +kernel
theorem dJ6_bitCount_0f7a4_28 : decode cJ6_bitCount_0f7a4 28 = .ok (.iadd, 1) := by decide +kernel
theorem dJ6_bitCount_0f7a4_29 : decode cJ6_bitCount_0f7a4 29 = .ok (.ldc_w 267, 3) := by decide +kernel
theorem dJ6_bitCount_0f7a4_32 : decode cJ6_bitCount_0f7a4 32 = .ok (.iand, 1) := by decide +kernel
theorem dJ6_bitCount_0f7a4_33 : decode cJ6_bitCount_0f7a4 33 = .ok (.istore_n 0, 1) := by decide +kernel
theorem dJ6_bitCount_0f7a4_34 : decode cJ6_bitCount_0f7a4 34 = .ok (.iload_n 0, 1) := by decide +kernel
theorem dJ6_bitCount_0f7a4_35 : decode cJ6_bitCount_0f7a4 35 = .ok (.iload_n 0, 1) := by decide +kernel
theorem dJ6_bitCount_0f7a4_36 : decode cJ6_bitCount_0f7a4 36 = .ok (.bipush 8, 2) := by decide +kernel
theorem dJ6_bitCount_0f7a4_38 : decode cJ6_bitCount_0f7a4 38 = .ok (.iushr, 1) := by decide +kernel
theorem dJ6_bitCount_0f7a4_39 : decode cJ6_bitCount_0f7a4 39 = .ok (.iadd, 1) := by decide +kernel
theorem dJ6_bitCount_0f7a4_40 : decode cJ6_bitCount_0f7a4 40 = .ok (.istore_n 0, 1) := by decide +kernel
theorem dJ6_bitCount_0f7a4_41 : decode cJ6_bitCount_0f7a4 41 = .ok (.iload_n 0, 1) := by decide +kernel
theorem dJ6_bitCount_0f7a4_42 : decode cJ6_bitCount_0f7a4 42 = .ok (.iload_n 0, 1) := by decide +kernel
theorem dJ6_bitCount_0f7a4_43 : decode cJ6_bitCount_0f7a4 43 = .ok (.bipush 16, 2) := by decide +kernel
theorem dJ6_bitCount_0f7a4_45 : decode cJ6_bitCount_0f7a4 45 = .ok (.iushr, 1) := by decide +kernel
theorem dJ6_bitCount_0f7a4_46 : decode cJ6_bitCount_0f7a4 46 = .ok (.iadd, 1) := by decide +kernel
theorem dJ6_bitCount_0f7a4_47 : decode cJ6_bitCount_0f7a4 47 = .ok (.istore_n 0, 1) := by decide +kernel
theorem dJ6_bitCount_0f7a4_48 : decode cJ6_bitCount_0f7a4 48 = .ok (.iload_n 0, 1) := by decide +kernel
theorem dJ6_bitCount_0f7a4_49 : decode cJ6_bitCount_0f7a4 49 = .ok (.bipush 63, 2) := by decide +kernel
theorem dJ6_bitCount_0f7a4_51 : decode cJ6_bitCount_0f7a4 51 = .ok (.iand, 1) := by decide +kernel
theorem dJ6_bitCount_0f7a4_52 : decode cJ6_bitCount_0f7a4 52 = .ok (.ireturn, 1) := by decide +kernel
