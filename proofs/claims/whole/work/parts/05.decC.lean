theorem dX12_init_0 : decode cX12_init 0 = .ok (.aload_n 0, 1) := by decide +kernel
theorem dX12_init_1 : decode cX12_init 1 = .ok (.invokespecial 1, 3) := by decide +kernel
theorem dX12_init_4 : decode cX12_init 4 = .ok (.aload_n 0, 1) := by decide +kernel
theorem dX12_init_5 : decode cX12_init 5 = .ok (.bipush 7, 2) := by decide +kernel
theorem dX12_init_7 : decode cX12_init 7 = .ok (.newarray .int, 2) := by decide +kernel
theorem dX12_init_9 : decode cX12_init 9 = .ok (.putfield 7, 3) := by decide +kernel
theorem dX12_init_12 : decode cX12_init 12 = .ok (.aload_n 0, 1) := by decide +kernel
theorem dX12_init_13 : decode cX12_init 13 = .ok (.bipush 7, 2) := by decide +kernel
theorem dX12_init_15 : decode cX12_init 15 = .ok (.newarray .int, 2) := by decide +kernel
theorem dX12_init_17 : decode cX12_init 17 = .ok (.putfield 13, 3) := by decide +kernel
theorem dX12_init_20 : decode cX12_init 20 = .ok (.aload_n 0, 1) := by decide +kernel
theorem dX12_init_21 : decode cX12_init 21 = .ok (.bipush 7, 2) := by decide +kernel
theorem dX12_init_23 : decode cX12_init 23 = .ok (.newarray .boolean, 2) := by decide +kernel
theorem dX12_init_25 : decode cX12_init 25 = .ok (.putfield 16, 3) := by decide +kernel
theorem dX12_init_28 : decode cX12_init 28 = .ok (.aload_n 0, 1) := by decide +kernel
theorem dX12_init_29 : decode cX12_init 29 = .ok (.bipush 7, 2) := by decide +kernel
theorem dX12_init_31 : decode cX12_init 31 = .ok (.newarray .int, 2) := by decide +kernel
theorem dX12_init_33 : decode cX12_init 33 = .ok (.putfield 20, 3) := by decide +kernel
theorem dX12_init_36 : decode cX12_init 36 = .ok (.aload_n 0, 1) := by decide +kernel
theorem dX12_init_37 : decode cX12_init 37 = .ok (.bipush 7, 2) := by decide +kernel
theorem dX12_init_39 : decode cX12_init 39 = .ok (.newarray .int, 2) := by decide +kernel
theorem dX12_init_41 : decode cX12_init 41 = .ok (.putfield 23, 3) := by decide +kernel
theorem dX12_init_44 : decode cX12_init 44 = .ok (.aload_n 0, 1) := by decide +kernel
theorem dX12_init_45 : decode cX12_init 45 = .ok (.iconst 2, 1) := by decide +kernel
theorem dX12_init_46 : decode cX12_init 46 = .ok (.putfield 26, 3) := by decide +kernel
theorem dX12_init_49 : decode cX12_init 49 = .ok (.aload_n 0, 1) := by decide +kernel
theorem dX12_init_50 : decode cX12_init 50 = .ok (.bipush 18, 2) := by decide +kernel
theorem dX12_init_52 : decode cX12_init 52 = .ok (.newarray .int, 2) := by decide +kernel
theorem dX12_init_54 : decode cX12_init 54 = .ok (.putfield 30, 3) := by decide +kernel
theorem dX12_init_57 : decode cX12_init 57 = .ok (.aload_n 0, 1) := by decide +kernel
theorem dX12_init_58 : decode cX12_init 58 = .ok (.bipush 15, 2) := by decide +kernel
theorem dX12_init_60 : decode cX12_init 60 = .ok (.newarray .int, 2) := by decide +kernel
theorem dX12_init_62 : decode cX12_init 62 = .ok (.putfield 33, 3) := by decide +kernel
theorem dX12_init_65 : decode cX12_init 65 = .ok (.aload_n 0, 1) := by decide +kernel
theorem dX12_init_66 : decode cX12_init 66 = .ok (.bipush 60, 2) := by decide +kernel
theorem dX12_init_68 : decode cX12_init 68 = .ok (.newarray .int, 2) := by decide +kernel
theorem dX12_init_70 : decode cX12_init 70 = .ok (.putfield 36, 3) := by decide +kernel
theorem dX12_init_73 : decode cX12_init 73 = .ok (.aload_n 0, 1) := by decide +kernel
theorem dX12_init_74 : decode cX12_init 74 = .ok (.bipush 7, 2) := by decide +kernel
theorem dX12_init_76 : decode cX12_init 76 = .ok (.newarray .int, 2) := by decide +kernel
theorem dX12_init_78 : decode cX12_init 78 = .ok (.putfield 39, 3) := by decide +kernel
theorem dX12_init_81 : decode cX12_init 81 = .ok (.aload_n 0, 1) := by decide +kernel
theorem dX12_init_82 : decode cX12_init 82 = .ok (.bipush 7, 2) := by decide +kernel
theorem dX12_init_84 : decode cX12_init 84 = .ok (.newarray .int, 2) := by decide +kernel
theorem dX12_init_86 : decode cX12_init 86 = .ok (.putfield 42, 3) := by decide +kernel
theorem dX12_init_89 : decode cX12_init 89 = .ok (.aload_n 0, 1) := by decide +kernel
theorem dX12_init_90 : decode cX12_init 90 = .ok (.bipush 7, 2) := by decide +kernel
theorem dX12_init_92 : decode cX12_init 92 = .ok (.newarray .int, 2) := by decide +kernel
theorem dX12_init_94 : decode cX12_init 94 = .ok (.putfield 45, 3) := by decide +kernel
theorem dX12_init_97 : decode cX12_init 97 = .ok (.aload_n 0, 1) := by decide +kernel
theorem dX12_init_98 : decode cX12_init 98 = .ok (.bipush 100, 2) := by decide +kernel
theorem dX12_init_100 : decode cX12_init 100 = .ok (.newarray .int, 2) := by decide +kernel
theorem dX12_init_102 : decode cX12_init 102 = .ok (.putfield 48, 3) := by decide +kernel
theorem dX12_init_105 : decode cX12_init 105 = .ok (.aload_n 0, 1) := by decide +kernel
theorem dX12_init_106 : decode cX12_init 106 = .ok (.bipush 7, 2) := by decide +kernel
theorem dX12_init_108 : decode cX12_init 108 = .ok (.newarray .int, 2) := by decide +kernel
theorem dX12_init_110 : decode cX12_init 110 = .ok (.putfield 51, 3) := by decide +kernel
theorem dX12_init_113 : decode cX12_init 113 = .ok (.aload_n 0, 1) := by decide +kernel
theorem dX12_init_114 : decode cX12_init 114 = .ok (.iconst 5, 1) := by decide +kernel
theorem dX12_init_115 : decode cX12_init 115 = .ok (.newarray .int, 2) := by decide +kernel
theorem dX12_init_117 : decode cX12_init 117 = .ok (.putfield 54, 3) := by decide +kernel
theorem dX12_init_120 : decode cX12_init 120 = .ok (.aload_n 0, 1) := by decide +kernel
theorem dX12_init_121 : decode cX12_init 121 = .ok (.sipush 144, 3) := by decide +kernel
theorem dX12_init_124 : decode cX12_init 124 = .ok (.newarray .int, 2) := by decide +kernel
theorem dX12_init_126 : decode cX12_init 126 = .ok (.putfield 57, 3) := by decide +kernel
theorem dX12_init_129 : decode cX12_init 129 = .ok (.aload_n 0, 1) := by decide +kernel
theorem dX12_init_130 : decode cX12_init 130 = .ok (.iconst 2, 1) := by decide +kernel
theorem dX12_init_131 : decode cX12_init 131 = .ok (.newarray .boolean, 2) := by decide +kernel
theorem dX12_init_133 : decode cX12_init 133 = .ok (.putfield 60, 3) := by decide +kernel
theorem dX12_init_136 : decode cX12_init 136 = .ok (.iconst 0, 1) := by decide +kernel
theorem dX12_init_137 : decode cX12_init 137 = .ok (.istore_n 1, 1) := by decide +kernel
theorem dX12_init_138 : decode cX12_init 138 = .ok (.iload_n 1, 1) := by decide +kernel
theorem dX12_init_139 : decode cX12_init 139 = .ok (.bipush 7, 2) := by decide +kernel
theorem dX12_init_141 : decode cX12_init 141 = .ok (.if_icmp .ge 17, 3) := by decide +kernel
theorem dX12_init_144 : decode cX12_init 144 = .ok (.aload_n 0, 1) := by decide +kernel
theorem dX12_init_145 : decode cX12_init 145 = .ok (.getfield 23, 3) := by decide +kernel
theorem dX12_init_148 : decode cX12_init 148 = .ok (.iload_n 1, 1) := by decide +kernel
theorem dX12_init_149 : decode cX12_init 149 = .ok (.bipush (-6), 2) := by decide +kernel
theorem dX12_init_151 : decode cX12_init 151 = .ok (.iastore, 1) := by decide +kernel
theorem dX12_init_152 : decode cX12_init 152 = .ok (.iinc 1 1, 3) := by decide +kernel
theorem dX12_init_155 : decode cX12_init 155 = .ok (.goto (-17), 3) := by decide +kernel
theorem dX12_init_158 : decode cX12_init 158 = .ok (.return_, 1) := by decide +kernel
theorem dX12_in_0 : decode cX12_in 0 = .ok (.iload_n 0, 1) := by decide +kernel
theorem dX12_in_1 : decode cX12_in 1 = .ok (.iload_n 1, 1) := by decide +kernel
theorem dX12_in_2 : decode cX12_in 2 = .ok (.if_icmp .lt 12, 3) := by decide +kernel
theorem dX12_in_5 : decode cX12_in 5 = .ok (.iload_n 0, 1) := by decide +kernel
theorem dX12_in_6 : decode cX12_in 6 = .ok (.iload_n 2, 1) := by decide +kernel
theorem dX12_in_7 : decode cX12_in 7 = .ok (.if_icmp .gt 7, 3) := by decide +kernel
theorem dX12_in_10 : decode cX12_in 10 = .ok (.iconst 1, 1) := by decide +kernel
theorem dX12_in_11 : decode cX12_in 11 = .ok (.goto 4, 3) := by decide +kernel
theorem dX12_in_14 : decode cX12_in 14 = .ok (.iconst 0, 1) := by decide +kernel
theorem dX12_in_15 : decode cX12_in 15 = .ok (.ireturn, 1) := by decide +kernel
theorem dX12_has_0 : decode cX12_has 0 = .ok (.iload_n 0, 1) := by decide +kernel
theorem dX12_has_1 : decode cX12_has 1 = .ok (.iload_n 1, 1) := by decide +kernel
theorem dX12_has_2 : decode cX12_has 2 = .ok (.ishr, 1) := by decide +kernel
theorem dX12_has_3 : decode cX12_has 3 = .ok (.iconst 1, 1) := by decide +kernel
theorem dX12_has_4 : decode cX12_has 4 = .ok (.iand, 1) := by decide +kernel
theorem dX12_has_5 : decode cX12_has 5 = .ok (.iconst 1, 1) := by decide +kernel
theorem dX12_has_6 : decode cX12_has 6 = .ok (.if_icmp .ne 7, 3) := by decide +kernel
theorem dX12_has_9 : decode cX12_has 9 = .ok (.iconst 1, 1) := by decide +kernel
theorem dX12_has_10 : decode cX12_has 10 = .ok (.goto 4, 3) := by decide +kernel
theorem dX12_has_13 : decode cX12_has 13 = .ok (.iconst 0, 1) := by decide +kernel
theorem dX12_has_14 : decode cX12_has 14 = .ok (.ireturn, 1) := by decide +kernel
theorem dX12_isDog_0 : decode cX12_isDog 0 = .ok (.iload_n 1, 1) := by decide +kernel
theorem dX12_isDog_1 : decode cX12_isDog 1 = .ok (.iconst 0, 1) := by decide +kernel
theorem dX12_isDog_2 : decode cX12_isDog 2 = .ok (.aload_n 0, 1) := by decide +kernel
theorem dX12_isDog_3 : decode cX12_isDog 3 = .ok (.getfield 63, 3) := by decide +kernel
theorem dX12_isDog_6 : decode cX12_isDog 6 = .ok (.iconst 1, 1) := by decide +kernel
theorem dX12_isDog_7 : decode cX12_isDog 7 = .ok (.isub, 1) := by decide +kernel
theorem dX12_isDog_8 : decode cX12_isDog 8 = .ok (.invokestatic 66, 3) := by decide +kernel
theorem dX12_isDog_11 : decode cX12_isDog 11 = .ok (.ireturn, 1) := by decide +kernel
theorem dX12_say_0 : decode cX12_say 0 = .ok (.iload_n 1, 1) := by decide +kernel
theorem dX12_say_1 : decode cX12_say 1 = .ok (.bipush 33, 2) := by decide +kernel
theorem dX12_say_3 : decode cX12_say 3 = .ok (.bipush 126, 2) := by decide +kernel
theorem dX12_say_5 : decode cX12_say 5 = .ok (.invokestatic 66, 3) := by decide +kernel
theorem dX12_say_8 : decode cX12_say 8 = .ok (.ifCond .ne 6, 3) := by decide +kernel
theorem dX12_say_11 : decode cX12_say 11 = .ok (.bipush (-2), 2) := by decide +kernel
theorem dX12_say_13 : decode cX12_say 13 = .ok (.ireturn, 1) := by decide +kernel
theorem dX12_say_14 : decode cX12_say 14 = .ok (.aload_n 0, 1) := by decide +kernel
theorem dX12_say_15 : decode cX12_say 15 = .ok (.getfield 70, 3) := by decide +kernel
theorem dX12_say_18 : decode cX12_say 18 = .ok (.bipush 60, 2) := by decide +kernel
theorem dX12_say_20 : decode cX12_say 20 = .ok (.if_icmp .ne 6, 3) := by decide +kernel
theorem dX12_say_23 : decode cX12_say 23 = .ok (.bipush (-4), 2) := by decide +kernel
theorem dX12_say_25 : decode cX12_say 25 = .ok (.ireturn, 1) := by decide +kernel
theorem dX12_say_26 : decode cX12_say 26 = .ok (.aload_n 0, 1) := by decide +kernel
theorem dX12_say_27 : decode cX12_say 27 = .ok (.getfield 36, 3) := by decide +kernel
theorem dX12_say_30 : decode cX12_say 30 = .ok (.aload_n 0, 1) := by decide +kernel
theorem dX12_say_31 : decode cX12_say 31 = .ok (.getfield 70, 3) := by decide +kernel
theorem dX12_say_34 : decode cX12_say 34 = .ok (.iload_n 1, 1) := by decide +kernel
theorem dX12_say_35 : decode cX12_say 35 = .ok (.iastore, 1) := by decide +kernel
theorem dX12_say_36 : decode cX12_say 36 = .ok (.aload_n 0, 1) := by decide +kernel
theorem dX12_say_37 : decode cX12_say 37 = .ok (.dup, 1) := by decide +kernel
theorem dX12_say_38 : decode cX12_say 38 = .ok (.getfield 70, 3) := by decide +kernel
theorem dX12_say_41 : decode cX12_say 41 = .ok (.iconst 1, 1) := by decide +kernel
theorem dX12_say_42 : decode cX12_say 42 = .ok (.iadd, 1) := by decide +kernel
theorem dX12_say_43 : decode cX12_say 43 = .ok (.putfield 70, 3) := by decide +kernel
theorem dX12_say_46 : decode cX12_say 46 = .ok (.aload_n 0, 1) := by decide +kernel
theorem dX12_say_47 : decode cX12_say 47 = .ok (.getfield 70, 3) := by decide +kernel
theorem dX12_say_50 : decode cX12_say 50 = .ok (.ireturn, 1) := by decide +kernel
theorem dX12_wipe_0 : decode cX12_wipe 0 = .ok (.aload_n 0, 1) := by decide +kernel
theorem dX12_wipe_1 : decode cX12_wipe 1 = .ok (.getfield 70, 3) := by decide +kernel
theorem dX12_wipe_4 : decode cX12_wipe 4 = .ok (.istore_n 1, 1) := by decide +kernel
theorem dX12_wipe_5 : decode cX12_wipe 5 = .ok (.aload_n 0, 1) := by decide +kernel
theorem dX12_wipe_6 : decode cX12_wipe 6 = .ok (.iconst 0, 1) := by decide +kernel
theorem dX12_wipe_7 : decode cX12_wipe 7 = .ok (.putfield 70, 3) := by decide +kernel
theorem dX12_wipe_10 : decode cX12_wipe 10 = .ok (.iload_n 1, 1) := by decide +kernel
theorem dX12_wipe_11 : decode cX12_wipe 11 = .ok (.ireturn, 1) := by decide +kernel
theorem dX12_faultOf_0 : decode cX12_faultOf 0 = .ok (.iconst 0, 1) := by decide +kernel
theorem dX12_faultOf_1 : decode cX12_faultOf 1 = .ok (.istore_n 1, 1) := by decide +kernel
theorem dX12_faultOf_2 : decode cX12_faultOf 2 = .ok (.iconst 0, 1) := by decide +kernel
theorem dX12_faultOf_3 : decode cX12_faultOf 3 = .ok (.istore_n 2, 1) := by decide +kernel
theorem dX12_faultOf_4 : decode cX12_faultOf 4 = .ok (.iconst 0, 1) := by decide +kernel
theorem dX12_faultOf_5 : decode cX12_faultOf 5 = .ok (.istore_n 3, 1) := by decide +kernel
theorem dX12_faultOf_6 : decode cX12_faultOf 6 = .ok (.iconst 0, 1) := by decide +kernel
theorem dX12_faultOf_7 : decode cX12_faultOf 7 = .ok (.istore 4, 2) := by decide +kernel
theorem dX12_faultOf_9 : decode cX12_faultOf 9 = .ok (.iconst 0, 1) := by decide +kernel
theorem dX12_faultOf_10 : decode cX12_faultOf 10 = .ok (.istore 5, 2) := by decide +kernel
theorem dX12_faultOf_12 : decode cX12_faultOf 12 = .ok (.iload 5, 2) := by decide +kernel
theorem dX12_faultOf_14 : decode cX12_faultOf 14 = .ok (.aload_n 0, 1) := by decide +kernel
theorem dX12_faultOf_15 : decode cX12_faultOf 15 = .ok (.getfield 70, 3) := by decide +kernel
theorem dX12_faultOf_18 : decode cX12_faultOf 18 = .ok (.if_icmp .ge 318, 3) := by decide +kernel
theorem dX12_faultOf_21 : decode cX12_faultOf 21 = .ok (.aload_n 0, 1) := by decide +kernel
theorem dX12_faultOf_22 : decode cX12_faultOf 22 = .ok (.getfield 36, 3) := by decide +kernel
theorem dX12_faultOf_25 : decode cX12_faultOf 25 = .ok (.iload 5, 2) := by decide +kernel
theorem dX12_faultOf_27 : decode cX12_faultOf 27 = .ok (.iaload, 1) := by decide +kernel
theorem dX12_faultOf_28 : decode cX12_faultOf 28 = .ok (.istore 6, 2) := by decide +kernel
theorem dX12_faultOf_30 : decode cX12_faultOf 30 = .ok (.iload_n 3, 1) := by decide +kernel
theorem dX12_faultOf_31 : decode cX12_faultOf 31 = .ok (.tableswitch 180 0 4 #[33, 63, 127, 180, 143], 33) := by decide +kernel
theorem dX12_faultOf_64 : decode cX12_faultOf 64 = .ok (.iload 6, 2) := by decide +kernel
theorem dX12_faultOf_66 : decode cX12_faultOf 66 = .ok (.bipush 49, 2) := by decide +kernel
theorem dX12_faultOf_68 : decode cX12_faultOf 68 = .ok (.bipush 57, 2) := by decide +kernel
theorem dX12_faultOf_70 : decode cX12_faultOf 70 = .ok (.invokestatic 66, 3) := by decide +kernel
theorem dX12_faultOf_73 : decode cX12_faultOf 73 = .ok (.ifCond .eq 13, 3) := by decide +kernel
theorem dX12_faultOf_76 : decode cX12_faultOf 76 = .ok (.iload_n 1, 1) := by decide +kernel
theorem dX12_faultOf_77 : decode cX12_faultOf 77 = .ok (.bipush 7, 2) := by decide +kernel
theorem dX12_faultOf_79 : decode cX12_faultOf 79 = .ok (.if_icmp .ge 7, 3) := by decide +kernel
theorem dX12_faultOf_82 : decode cX12_faultOf 82 = .ok (.iconst 1, 1) := by decide +kernel
theorem dX12_faultOf_83 : decode cX12_faultOf 83 = .ok (.goto 4, 3) := by decide +kernel
theorem dX12_faultOf_86 : decode cX12_faultOf 86 = .ok (.iconst 0, 1) := by decide +kernel
theorem dX12_faultOf_87 : decode cX12_faultOf 87 = .ok (.istore 7, 2) := by decide +kernel
theorem dX12_faultOf_89 : decode cX12_faultOf 89 = .ok (.iconst 1, 1) := by decide +kernel
theorem dX12_faultOf_90 : decode cX12_faultOf 90 = .ok (.istore_n 3, 1) := by decide +kernel
theorem dX12_faultOf_91 : decode cX12_faultOf 91 = .ok (.goto 231, 3) := by decide +kernel
theorem dX12_faultOf_94 : decode cX12_faultOf 94 = .ok (.iload_n 2, 1) := by decide +kernel
theorem dX12_faultOf_95 : decode cX12_faultOf 95 = .ok (.iload 6, 2) := by decide +kernel
theorem dX12_faultOf_97 : decode cX12_faultOf 97 = .ok (.bipush 63, 2) := by decide +kernel
theorem dX12_faultOf_99 : decode cX12_faultOf 99 = .ok (.if_icmp .ne 7, 3) := by decide +kernel
theorem dX12_faultOf_102 : decode cX12_faultOf 102 = .ok (.iconst 1, 1) := by decide +kernel
theorem dX12_faultOf_103 : decode cX12_faultOf 103 = .ok (.goto 4, 3) := by decide +kernel
theorem dX12_faultOf_106 : decode cX12_faultOf 106 = .ok (.iconst 0, 1) := by decide +kernel
theorem dX12_faultOf_107 : decode cX12_faultOf 107 = .ok (.iadd, 1) := by decide +kernel
theorem dX12_faultOf_108 : decode cX12_faultOf 108 = .ok (.istore_n 2, 1) := by decide +kernel
theorem dX12_faultOf_109 : decode cX12_faultOf 109 = .ok (.iload 6, 2) := by decide +kernel
theorem dX12_faultOf_111 : decode cX12_faultOf 111 = .ok (.bipush 43, 2) := by decide +kernel
theorem dX12_faultOf_113 : decode cX12_faultOf 113 = .ok (.if_icmp .eq 22, 3) := by decide +kernel
theorem dX12_faultOf_116 : decode cX12_faultOf 116 = .ok (.iload 6, 2) := by decide +kernel
theorem dX12_faultOf_118 : decode cX12_faultOf 118 = .ok (.bipush 45, 2) := by decide +kernel
theorem dX12_faultOf_120 : decode cX12_faultOf 120 = .ok (.if_icmp .eq 15, 3) := by decide +kernel
theorem dX12_faultOf_123 : decode cX12_faultOf 123 = .ok (.iload 6, 2) := by decide +kernel
theorem dX12_faultOf_125 : decode cX12_faultOf 125 = .ok (.bipush 63, 2) := by decide +kernel
theorem dX12_faultOf_127 : decode cX12_faultOf 127 = .ok (.if_icmp .ne 12, 3) := by decide +kernel
theorem dX12_faultOf_130 : decode cX12_faultOf 130 = .ok (.iload_n 2, 1) := by decide +kernel
theorem dX12_faultOf_131 : decode cX12_faultOf 131 = .ok (.iconst 4, 1) := by decide +kernel
theorem dX12_faultOf_132 : decode cX12_faultOf 132 = .ok (.if_icmp .ge 7, 3) := by decide +kernel
theorem dX12_faultOf_135 : decode cX12_faultOf 135 = .ok (.iconst 1, 1) := by decide +kernel
theorem dX12_faultOf_136 : decode cX12_faultOf 136 = .ok (.goto 4, 3) := by decide +kernel
theorem dX12_faultOf_139 : decode cX12_faultOf 139 = .ok (.iconst 0, 1) := by decide +kernel
theorem dX12_faultOf_140 : decode cX12_faultOf 140 = .ok (.istore 7, 2) := by decide +kernel
theorem dX12_faultOf_142 : decode cX12_faultOf 142 = .ok (.iload 6, 2) := by decide +kernel
theorem dX12_faultOf_144 : decode cX12_faultOf 144 = .ok (.bipush 63, 2) := by decide +kernel
theorem dX12_faultOf_146 : decode cX12_faultOf 146 = .ok (.if_icmp .ne 7, 3) := by decide +kernel
theorem dX12_faultOf_149 : decode cX12_faultOf 149 = .ok (.iconst 3, 1) := by decide +kernel
theorem dX12_faultOf_150 : decode cX12_faultOf 150 = .ok (.goto 4, 3) := by decide +kernel
theorem dX12_faultOf_153 : decode cX12_faultOf 153 = .ok (.iconst 2, 1) := by decide +kernel
theorem dX12_faultOf_154 : decode cX12_faultOf 154 = .ok (.istore_n 3, 1) := by decide +kernel
theorem dX12_faultOf_155 : decode cX12_faultOf 155 = .ok (.goto 167, 3) := by decide +kernel
theorem dX12_faultOf_158 : decode cX12_faultOf 158 = .ok (.iload 6, 2) := by decide +kernel
theorem dX12_faultOf_160 : decode cX12_faultOf 160 = .ok (.bipush 48, 2) := by decide +kernel
theorem dX12_faultOf_162 : decode cX12_faultOf 162 = .ok (.bipush 57, 2) := by decide +kernel
theorem dX12_faultOf_164 : decode cX12_faultOf 164 = .ok (.invokestatic 66, 3) := by decide +kernel
theorem dX12_faultOf_167 : decode cX12_faultOf 167 = .ok (.istore 7, 2) := by decide +kernel
theorem dX12_faultOf_169 : decode cX12_faultOf 169 = .ok (.iconst 3, 1) := by decide +kernel
theorem dX12_faultOf_170 : decode cX12_faultOf 170 = .ok (.istore_n 3, 1) := by decide +kernel
theorem dX12_faultOf_171 : decode cX12_faultOf 171 = .ok (.goto 151, 3) := by decide +kernel
theorem dX12_faultOf_174 : decode cX12_faultOf 174 = .ok (.iload 6, 2) := by decide +kernel
theorem dX12_faultOf_176 : decode cX12_faultOf 176 = .ok (.bipush 97, 2) := by decide +kernel
theorem dX12_faultOf_178 : decode cX12_faultOf 178 = .ok (.bipush 103, 2) := by decide +kernel
theorem dX12_faultOf_180 : decode cX12_faultOf 180 = .ok (.invokestatic 66, 3) := by decide +kernel
theorem dX12_faultOf_183 : decode cX12_faultOf 183 = .ok (.ifCond .eq 16, 3) := by decide +kernel
theorem dX12_faultOf_186 : decode cX12_faultOf 186 = .ok (.iload 6, 2) := by decide +kernel
theorem dX12_faultOf_188 : decode cX12_faultOf 188 = .ok (.bipush 97, 2) := by decide +kernel
theorem dX12_faultOf_190 : decode cX12_faultOf 190 = .ok (.iload_n 1, 1) := by decide +kernel
theorem dX12_faultOf_191 : decode cX12_faultOf 191 = .ok (.iadd, 1) := by decide +kernel
theorem dX12_faultOf_192 : decode cX12_faultOf 192 = .ok (.if_icmp .eq 7, 3) := by decide +kernel
theorem dX12_faultOf_195 : decode cX12_faultOf 195 = .ok (.iconst 1, 1) := by decide +kernel
theorem dX12_faultOf_196 : decode cX12_faultOf 196 = .ok (.goto 4, 3) := by decide +kernel
theorem dX12_faultOf_199 : decode cX12_faultOf 199 = .ok (.iconst 0, 1) := by decide +kernel
theorem dX12_faultOf_200 : decode cX12_faultOf 200 = .ok (.istore 7, 2) := by decide +kernel
theorem dX12_faultOf_202 : decode cX12_faultOf 202 = .ok (.iload 6, 2) := by decide +kernel
theorem dX12_faultOf_204 : decode cX12_faultOf 204 = .ok (.istore 4, 2) := by decide +kernel
theorem dX12_faultOf_206 : decode cX12_faultOf 206 = .ok (.iconst 5, 1) := by decide +kernel
theorem dX12_faultOf_207 : decode cX12_faultOf 207 = .ok (.istore_n 3, 1) := by decide +kernel
theorem dX12_faultOf_208 : decode cX12_faultOf 208 = .ok (.goto 114, 3) := by decide +kernel
theorem dX12_faultOf_211 : decode cX12_faultOf 211 = .ok (.iload_n 3, 1) := by decide +kernel
theorem dX12_faultOf_212 : decode cX12_faultOf 212 = .ok (.iconst 5, 1) := by decide +kernel
theorem dX12_faultOf_213 : decode cX12_faultOf 213 = .ok (.if_icmp .ne 35, 3) := by decide +kernel
theorem dX12_faultOf_216 : decode cX12_faultOf 216 = .ok (.iload 6, 2) := by decide +kernel
theorem dX12_faultOf_218 : decode cX12_faultOf 218 = .ok (.bipush 97, 2) := by decide +kernel
theorem dX12_faultOf_220 : decode cX12_faultOf 220 = .ok (.bipush 103, 2) := by decide +kernel
theorem dX12_faultOf_222 : decode cX12_faultOf 222 = .ok (.invokestatic 66, 3) := by decide +kernel
theorem dX12_faultOf_225 : decode cX12_faultOf 225 = .ok (.ifCond .eq 23, 3) := by decide +kernel
theorem dX12_faultOf_228 : decode cX12_faultOf 228 = .ok (.iload 6, 2) := by decide +kernel
theorem dX12_faultOf_230 : decode cX12_faultOf 230 = .ok (.iload 4, 2) := by decide +kernel
theorem dX12_faultOf_232 : decode cX12_faultOf 232 = .ok (.if_icmp .le 16, 3) := by decide +kernel
theorem dX12_faultOf_235 : decode cX12_faultOf 235 = .ok (.iload 6, 2) := by decide +kernel
theorem dX12_faultOf_237 : decode cX12_faultOf 237 = .ok (.bipush 97, 2) := by decide +kernel
theorem dX12_faultOf_239 : decode cX12_faultOf 239 = .ok (.iload_n 1, 1) := by decide +kernel
theorem dX12_faultOf_240 : decode cX12_faultOf 240 = .ok (.iadd, 1) := by decide +kernel
theorem dX12_faultOf_241 : decode cX12_faultOf 241 = .ok (.if_icmp .eq 7, 3) := by decide +kernel
theorem dX12_faultOf_244 : decode cX12_faultOf 244 = .ok (.iconst 1, 1) := by decide +kernel
theorem dX12_faultOf_245 : decode cX12_faultOf 245 = .ok (.goto 4, 3) := by decide +kernel
theorem dX12_faultOf_248 : decode cX12_faultOf 248 = .ok (.iconst 0, 1) := by decide +kernel
theorem dX12_faultOf_249 : decode cX12_faultOf 249 = .ok (.istore 8, 2) := by decide +kernel
theorem dX12_faultOf_251 : decode cX12_faultOf 251 = .ok (.iload 6, 2) := by decide +kernel
theorem dX12_faultOf_253 : decode cX12_faultOf 253 = .ok (.bipush 59, 2) := by decide +kernel
theorem dX12_faultOf_255 : decode cX12_faultOf 255 = .ok (.if_icmp .eq 20, 3) := by decide +kernel
theorem dX12_faultOf_258 : decode cX12_faultOf 258 = .ok (.iload 6, 2) := by decide +kernel
theorem dX12_faultOf_260 : decode cX12_faultOf 260 = .ok (.bipush 33, 2) := by decide +kernel
theorem dX12_faultOf_262 : decode cX12_faultOf 262 = .ok (.if_icmp .ne 8, 3) := by decide +kernel
theorem dX12_faultOf_265 : decode cX12_faultOf 265 = .ok (.iload_n 3, 1) := by decide +kernel
theorem dX12_faultOf_266 : decode cX12_faultOf 266 = .ok (.iconst 3, 1) := by decide +kernel
theorem dX12_faultOf_267 : decode cX12_faultOf 267 = .ok (.if_icmp .eq 8, 3) := by decide +kernel
theorem dX12_faultOf_270 : decode cX12_faultOf 270 = .ok (.iload 8, 2) := by decide +kernel
theorem dX12_faultOf_272 : decode cX12_faultOf 272 = .ok (.ifCond .eq 7, 3) := by decide +kernel
theorem dX12_faultOf_275 : decode cX12_faultOf 275 = .ok (.iconst 1, 1) := by decide +kernel
theorem dX12_faultOf_276 : decode cX12_faultOf 276 = .ok (.goto 4, 3) := by decide +kernel
theorem dX12_faultOf_279 : decode cX12_faultOf 279 = .ok (.iconst 0, 1) := by decide +kernel
theorem dX12_faultOf_280 : decode cX12_faultOf 280 = .ok (.istore 7, 2) := by decide +kernel
theorem dX12_faultOf_282 : decode cX12_faultOf 282 = .ok (.iload_n 1, 1) := by decide +kernel
theorem dX12_faultOf_283 : decode cX12_faultOf 283 = .ok (.iload 6, 2) := by decide +kernel
theorem dX12_faultOf_285 : decode cX12_faultOf 285 = .ok (.bipush 59, 2) := by decide +kernel
theorem dX12_faultOf_287 : decode cX12_faultOf 287 = .ok (.if_icmp .ne 7, 3) := by decide +kernel
theorem dX12_faultOf_290 : decode cX12_faultOf 290 = .ok (.iconst 1, 1) := by decide +kernel
theorem dX12_faultOf_291 : decode cX12_faultOf 291 = .ok (.goto 4, 3) := by decide +kernel
theorem dX12_faultOf_294 : decode cX12_faultOf 294 = .ok (.iconst 0, 1) := by decide +kernel
theorem dX12_faultOf_295 : decode cX12_faultOf 295 = .ok (.iadd, 1) := by decide +kernel
theorem dX12_faultOf_296 : decode cX12_faultOf 296 = .ok (.istore_n 1, 1) := by decide +kernel
theorem dX12_faultOf_297 : decode cX12_faultOf 297 = .ok (.iload 6, 2) := by decide +kernel
theorem dX12_faultOf_299 : decode cX12_faultOf 299 = .ok (.bipush 59, 2) := by decide +kernel
theorem dX12_faultOf_301 : decode cX12_faultOf 301 = .ok (.if_icmp .ne 7, 3) := by decide +kernel
theorem dX12_faultOf_304 : decode cX12_faultOf 304 = .ok (.iconst 0, 1) := by decide +kernel
theorem dX12_faultOf_305 : decode cX12_faultOf 305 = .ok (.goto 16, 3) := by decide +kernel
theorem dX12_faultOf_308 : decode cX12_faultOf 308 = .ok (.iload 6, 2) := by decide +kernel
theorem dX12_faultOf_310 : decode cX12_faultOf 310 = .ok (.bipush 33, 2) := by decide +kernel
theorem dX12_faultOf_312 : decode cX12_faultOf 312 = .ok (.if_icmp .ne 7, 3) := by decide +kernel
theorem dX12_faultOf_315 : decode cX12_faultOf 315 = .ok (.iconst 4, 1) := by decide +kernel
theorem dX12_faultOf_316 : decode cX12_faultOf 316 = .ok (.goto 5, 3) := by decide +kernel
theorem dX12_faultOf_319 : decode cX12_faultOf 319 = .ok (.bipush 6, 2) := by decide +kernel
theorem dX12_faultOf_321 : decode cX12_faultOf 321 = .ok (.istore_n 3, 1) := by decide +kernel
theorem dX12_faultOf_322 : decode cX12_faultOf 322 = .ok (.iload 7, 2) := by decide +kernel
theorem dX12_faultOf_324 : decode cX12_faultOf 324 = .ok (.ifCond .ne 6, 3) := by decide +kernel
theorem dX12_faultOf_327 : decode cX12_faultOf 327 = .ok (.iload 5, 2) := by decide +kernel
theorem dX12_faultOf_329 : decode cX12_faultOf 329 = .ok (.ireturn, 1) := by decide +kernel
theorem dX12_faultOf_330 : decode cX12_faultOf 330 = .ok (.iinc 5 1, 3) := by decide +kernel
theorem dX12_faultOf_333 : decode cX12_faultOf 333 = .ok (.goto (-321), 3) := by decide +kernel
theorem dX12_faultOf_336 : decode cX12_faultOf 336 = .ok (.iload_n 3, 1) := by decide +kernel
theorem dX12_faultOf_337 : decode cX12_faultOf 337 = .ok (.ifCond .ne 8, 3) := by decide +kernel
theorem dX12_faultOf_340 : decode cX12_faultOf 340 = .ok (.bipush (-6), 2) := by decide +kernel
theorem dX12_faultOf_342 : decode cX12_faultOf 342 = .ok (.goto 7, 3) := by decide +kernel
theorem dX12_faultOf_345 : decode cX12_faultOf 345 = .ok (.aload_n 0, 1) := by decide +kernel
theorem dX12_faultOf_346 : decode cX12_faultOf 346 = .ok (.getfield 70, 3) := by decide +kernel
theorem dX12_faultOf_349 : decode cX12_faultOf 349 = .ok (.ireturn, 1) := by decide +kernel
theorem dX12_fault_0 : decode cX12_fault 0 = .ok (.aload_n 0, 1) := by decide +kernel
theorem dX12_fault_1 : decode cX12_fault 1 = .ok (.invokevirtual 73, 3) := by decide +kernel
theorem dX12_fault_4 : decode cX12_fault 4 = .ok (.ireturn, 1) := by decide +kernel
theorem dX12_roll_0 : decode cX12_roll 0 = .ok (.aload_n 0, 1) := by decide +kernel
theorem dX12_roll_1 : decode cX12_roll 1 = .ok (.invokevirtual 73, 3) := by decide +kernel
theorem dX12_roll_4 : decode cX12_roll 4 = .ok (.ifCond .lt 6, 3) := by decide +kernel
theorem dX12_roll_7 : decode cX12_roll 7 = .ok (.bipush (-5), 2) := by decide +kernel
theorem dX12_roll_9 : decode cX12_roll 9 = .ok (.ireturn, 1) := by decide +kernel
theorem dX12_roll_10 : decode cX12_roll 10 = .ok (.aload_n 0, 1) := by decide +kernel
theorem dX12_roll_11 : decode cX12_roll 11 = .ok (.iconst 0, 1) := by decide +kernel
theorem dX12_roll_12 : decode cX12_roll 12 = .ok (.putfield 63, 3) := by decide +kernel
theorem dX12_roll_15 : decode cX12_roll 15 = .ok (.aload_n 0, 1) := by decide +kernel
theorem dX12_roll_16 : decode cX12_roll 16 = .ok (.iconst 0, 1) := by decide +kernel
theorem dX12_roll_17 : decode cX12_roll 17 = .ok (.putfield 77, 3) := by decide +kernel
theorem dX12_roll_20 : decode cX12_roll 20 = .ok (.iconst 0, 1) := by decide +kernel
theorem dX12_roll_21 : decode cX12_roll 21 = .ok (.istore_n 1, 1) := by decide +kernel
theorem dX12_roll_22 : decode cX12_roll 22 = .ok (.iload_n 1, 1) := by decide +kernel
theorem dX12_roll_23 : decode cX12_roll 23 = .ok (.bipush 7, 2) := by decide +kernel
theorem dX12_roll_25 : decode cX12_roll 25 = .ok (.if_icmp .ge 24, 3) := by decide +kernel
theorem dX12_roll_28 : decode cX12_roll 28 = .ok (.aload_n 0, 1) := by decide +kernel
theorem dX12_roll_29 : decode cX12_roll 29 = .ok (.getfield 23, 3) := by decide +kernel
theorem dX12_roll_32 : decode cX12_roll 32 = .ok (.iload_n 1, 1) := by decide +kernel
theorem dX12_roll_33 : decode cX12_roll 33 = .ok (.bipush (-6), 2) := by decide +kernel
theorem dX12_roll_35 : decode cX12_roll 35 = .ok (.iastore, 1) := by decide +kernel
theorem dX12_roll_36 : decode cX12_roll 36 = .ok (.aload_n 0, 1) := by decide +kernel
theorem dX12_roll_37 : decode cX12_roll 37 = .ok (.getfield 20, 3) := by decide +kernel
theorem dX12_roll_40 : decode cX12_roll 40 = .ok (.iload_n 1, 1) := by decide +kernel
theorem dX12_roll_41 : decode cX12_roll 41 = .ok (.iconst 0, 1) := by decide +kernel
theorem dX12_roll_42 : decode cX12_roll 42 = .ok (.iastore, 1) := by decide +kernel
theorem dX12_roll_43 : decode cX12_roll 43 = .ok (.iinc 1 1, 3) := by decide +kernel
theorem dX12_roll_46 : decode cX12_roll 46 = .ok (.goto (-24), 3) := by decide +kernel
theorem dX12_roll_49 : decode cX12_roll 49 = .ok (.iconst 0, 1) := by decide +kernel
theorem dX12_roll_50 : decode cX12_roll 50 = .ok (.istore_n 1, 1) := by decide +kernel
theorem dX12_roll_51 : decode cX12_roll 51 = .ok (.iload_n 1, 1) := by decide +kernel
theorem dX12_roll_52 : decode cX12_roll 52 = .ok (.aload_n 0, 1) := by decide +kernel
theorem dX12_roll_53 : decode cX12_roll 53 = .ok (.getfield 70, 3) := by decide +kernel
theorem dX12_roll_56 : decode cX12_roll 56 = .ok (.if_icmp .ge 187, 3) := by decide +kernel
theorem dX12_roll_59 : decode cX12_roll 59 = .ok (.aload_n 0, 1) := by decide +kernel
theorem dX12_roll_60 : decode cX12_roll 60 = .ok (.getfield 7, 3) := by decide +kernel
theorem dX12_roll_63 : decode cX12_roll 63 = .ok (.aload_n 0, 1) := by decide +kernel
theorem dX12_roll_64 : decode cX12_roll 64 = .ok (.getfield 63, 3) := by decide +kernel
theorem dX12_roll_67 : decode cX12_roll 67 = .ok (.aload_n 0, 1) := by decide +kernel
theorem dX12_roll_68 : decode cX12_roll 68 = .ok (.getfield 36, 3) := by decide +kernel
theorem dX12_roll_71 : decode cX12_roll 71 = .ok (.iload_n 1, 1) := by decide +kernel
theorem dX12_roll_72 : decode cX12_roll 72 = .ok (.iaload, 1) := by decide +kernel
theorem dX12_roll_73 : decode cX12_roll 73 = .ok (.bipush 48, 2) := by decide +kernel
theorem dX12_roll_75 : decode cX12_roll 75 = .ok (.isub, 1) := by decide +kernel
theorem dX12_roll_76 : decode cX12_roll 76 = .ok (.iastore, 1) := by decide +kernel
theorem dX12_roll_77 : decode cX12_roll 77 = .ok (.aload_n 0, 1) := by decide +kernel
theorem dX12_roll_78 : decode cX12_roll 78 = .ok (.getfield 16, 3) := by decide +kernel
theorem dX12_roll_81 : decode cX12_roll 81 = .ok (.aload_n 0, 1) := by decide +kernel
theorem dX12_roll_82 : decode cX12_roll 82 = .ok (.getfield 63, 3) := by decide +kernel
theorem dX12_roll_85 : decode cX12_roll 85 = .ok (.aload_n 0, 1) := by decide +kernel
theorem dX12_roll_86 : decode cX12_roll 86 = .ok (.getfield 36, 3) := by decide +kernel
theorem dX12_roll_89 : decode cX12_roll 89 = .ok (.iload_n 1, 1) := by decide +kernel
theorem dX12_roll_90 : decode cX12_roll 90 = .ok (.iconst 1, 1) := by decide +kernel
theorem dX12_roll_91 : decode cX12_roll 91 = .ok (.iadd, 1) := by decide +kernel
theorem dX12_roll_92 : decode cX12_roll 92 = .ok (.iaload, 1) := by decide +kernel
theorem dX12_roll_93 : decode cX12_roll 93 = .ok (.bipush 63, 2) := by decide +kernel
theorem dX12_roll_95 : decode cX12_roll 95 = .ok (.if_icmp .eq 7, 3) := by decide +kernel
theorem dX12_roll_98 : decode cX12_roll 98 = .ok (.iconst 1, 1) := by decide +kernel
theorem dX12_roll_99 : decode cX12_roll 99 = .ok (.goto 4, 3) := by decide +kernel
theorem dX12_roll_102 : decode cX12_roll 102 = .ok (.iconst 0, 1) := by decide +kernel
theorem dX12_roll_103 : decode cX12_roll 103 = .ok (.bastore, 1) := by decide +kernel
theorem dX12_roll_104 : decode cX12_roll 104 = .ok (.aload_n 0, 1) := by decide +kernel
theorem dX12_roll_105 : decode cX12_roll 105 = .ok (.getfield 13, 3) := by decide +kernel
theorem dX12_roll_108 : decode cX12_roll 108 = .ok (.aload_n 0, 1) := by decide +kernel
theorem dX12_roll_109 : decode cX12_roll 109 = .ok (.getfield 63, 3) := by decide +kernel
theorem dX12_roll_112 : decode cX12_roll 112 = .ok (.iconst 0, 1) := by decide +kernel
theorem dX12_roll_113 : decode cX12_roll 113 = .ok (.iastore, 1) := by decide +kernel
theorem dX12_roll_114 : decode cX12_roll 114 = .ok (.aload_n 0, 1) := by decide +kernel
theorem dX12_roll_115 : decode cX12_roll 115 = .ok (.getfield 16, 3) := by decide +kernel
theorem dX12_roll_118 : decode cX12_roll 118 = .ok (.aload_n 0, 1) := by decide +kernel
theorem dX12_roll_119 : decode cX12_roll 119 = .ok (.getfield 63, 3) := by decide +kernel
theorem dX12_roll_122 : decode cX12_roll 122 = .ok (.baload, 1) := by decide +kernel
theorem dX12_roll_123 : decode cX12_roll 123 = .ok (.ifCond .eq 46, 3) := by decide +kernel
theorem dX12_roll_126 : decode cX12_roll 126 = .ok (.aload_n 0, 1) := by decide +kernel
theorem dX12_roll_127 : decode cX12_roll 127 = .ok (.getfield 36, 3) := by decide +kernel
theorem dX12_roll_130 : decode cX12_roll 130 = .ok (.iload_n 1, 1) := by decide +kernel
theorem dX12_roll_131 : decode cX12_roll 131 = .ok (.iconst 2, 1) := by decide +kernel
theorem dX12_roll_132 : decode cX12_roll 132 = .ok (.iadd, 1) := by decide +kernel
theorem dX12_roll_133 : decode cX12_roll 133 = .ok (.iaload, 1) := by decide +kernel
theorem dX12_roll_134 : decode cX12_roll 134 = .ok (.bipush 48, 2) := by decide +kernel
theorem dX12_roll_136 : decode cX12_roll 136 = .ok (.isub, 1) := by decide +kernel
theorem dX12_roll_137 : decode cX12_roll 137 = .ok (.istore_n 2, 1) := by decide +kernel
theorem dX12_roll_138 : decode cX12_roll 138 = .ok (.aload_n 0, 1) := by decide +kernel
theorem dX12_roll_139 : decode cX12_roll 139 = .ok (.getfield 13, 3) := by decide +kernel
theorem dX12_roll_142 : decode cX12_roll 142 = .ok (.aload_n 0, 1) := by decide +kernel
theorem dX12_roll_143 : decode cX12_roll 143 = .ok (.getfield 63, 3) := by decide +kernel
theorem dX12_roll_146 : decode cX12_roll 146 = .ok (.aload_n 0, 1) := by decide +kernel
theorem dX12_roll_147 : decode cX12_roll 147 = .ok (.getfield 36, 3) := by decide +kernel
theorem dX12_roll_150 : decode cX12_roll 150 = .ok (.iload_n 1, 1) := by decide +kernel
theorem dX12_roll_151 : decode cX12_roll 151 = .ok (.iconst 1, 1) := by decide +kernel
theorem dX12_roll_152 : decode cX12_roll 152 = .ok (.iadd, 1) := by decide +kernel
theorem dX12_roll_153 : decode cX12_roll 153 = .ok (.iaload, 1) := by decide +kernel
theorem dX12_roll_154 : decode cX12_roll 154 = .ok (.bipush 43, 2) := by decide +kernel
theorem dX12_roll_156 : decode cX12_roll 156 = .ok (.if_icmp .ne 7, 3) := by decide +kernel
theorem dX12_roll_159 : decode cX12_roll 159 = .ok (.iload_n 2, 1) := by decide +kernel
theorem dX12_roll_160 : decode cX12_roll 160 = .ok (.goto 5, 3) := by decide +kernel
theorem dX12_roll_163 : decode cX12_roll 163 = .ok (.iload_n 2, 1) := by decide +kernel
theorem dX12_roll_164 : decode cX12_roll 164 = .ok (.ineg, 1) := by decide +kernel
theorem dX12_roll_165 : decode cX12_roll 165 = .ok (.iastore, 1) := by decide +kernel
theorem dX12_roll_166 : decode cX12_roll 166 = .ok (.iinc 1 1, 3) := by decide +kernel
theorem dX12_roll_169 : decode cX12_roll 169 = .ok (.iinc 1 2, 3) := by decide +kernel
theorem dX12_roll_172 : decode cX12_roll 172 = .ok (.aload_n 0, 1) := by decide +kernel
theorem dX12_roll_173 : decode cX12_roll 173 = .ok (.getfield 36, 3) := by decide +kernel
theorem dX12_roll_176 : decode cX12_roll 176 = .ok (.iload_n 1, 1) := by decide +kernel
theorem dX12_roll_177 : decode cX12_roll 177 = .ok (.iaload, 1) := by decide +kernel
theorem dX12_roll_178 : decode cX12_roll 178 = .ok (.bipush 59, 2) := by decide +kernel
theorem dX12_roll_180 : decode cX12_roll 180 = .ok (.if_icmp .eq 47, 3) := by decide +kernel
theorem dX12_roll_183 : decode cX12_roll 183 = .ok (.aload_n 0, 1) := by decide +kernel
theorem dX12_roll_184 : decode cX12_roll 184 = .ok (.getfield 20, 3) := by decide +kernel
theorem dX12_roll_187 : decode cX12_roll 187 = .ok (.aload_n 0, 1) := by decide +kernel
theorem dX12_roll_188 : decode cX12_roll 188 = .ok (.getfield 63, 3) := by decide +kernel
theorem dX12_roll_191 : decode cX12_roll 191 = .ok (.dup2, 1) := by decide +kernel
theorem dX12_roll_192 : decode cX12_roll 192 = .ok (.iaload, 1) := by decide +kernel
theorem dX12_roll_193 : decode cX12_roll 193 = .ok (.aload_n 0, 1) := by decide +kernel
theorem dX12_roll_194 : decode cX12_roll 194 = .ok (.getfield 36, 3) := by decide +kernel
theorem dX12_roll_197 : decode cX12_roll 197 = .ok (.iload_n 1, 1) := by decide +kernel
theorem dX12_roll_198 : decode cX12_roll 198 = .ok (.iaload, 1) := by decide +kernel
theorem dX12_roll_199 : decode cX12_roll 199 = .ok (.bipush 33, 2) := by decide +kernel
theorem dX12_roll_201 : decode cX12_roll 201 = .ok (.if_icmp .ne 7, 3) := by decide +kernel
theorem dX12_roll_204 : decode cX12_roll 204 = .ok (.iconst 0, 1) := by decide +kernel
theorem dX12_roll_205 : decode cX12_roll 205 = .ok (.goto 14, 3) := by decide +kernel
theorem dX12_roll_208 : decode cX12_roll 208 = .ok (.iconst 1, 1) := by decide +kernel
theorem dX12_roll_209 : decode cX12_roll 209 = .ok (.aload_n 0, 1) := by decide +kernel
theorem dX12_roll_210 : decode cX12_roll 210 = .ok (.getfield 36, 3) := by decide +kernel
theorem dX12_roll_213 : decode cX12_roll 213 = .ok (.iload_n 1, 1) := by decide +kernel
theorem dX12_roll_214 : decode cX12_roll 214 = .ok (.iaload, 1) := by decide +kernel
theorem dX12_roll_215 : decode cX12_roll 215 = .ok (.bipush 97, 2) := by decide +kernel
theorem dX12_roll_217 : decode cX12_roll 217 = .ok (.isub, 1) := by decide +kernel
theorem dX12_roll_218 : decode cX12_roll 218 = .ok (.ishl, 1) := by decide +kernel
theorem dX12_roll_219 : decode cX12_roll 219 = .ok (.ior, 1) := by decide +kernel
theorem dX12_roll_220 : decode cX12_roll 220 = .ok (.iastore, 1) := by decide +kernel
theorem dX12_roll_221 : decode cX12_roll 221 = .ok (.iinc 1 1, 3) := by decide +kernel
theorem dX12_roll_224 : decode cX12_roll 224 = .ok (.goto (-52), 3) := by decide +kernel
theorem dX12_roll_227 : decode cX12_roll 227 = .ok (.iinc 1 1, 3) := by decide +kernel
theorem dX12_roll_230 : decode cX12_roll 230 = .ok (.aload_n 0, 1) := by decide +kernel
theorem dX12_roll_231 : decode cX12_roll 231 = .ok (.dup, 1) := by decide +kernel
theorem dX12_roll_232 : decode cX12_roll 232 = .ok (.getfield 63, 3) := by decide +kernel
theorem dX12_roll_235 : decode cX12_roll 235 = .ok (.iconst 1, 1) := by decide +kernel
theorem dX12_roll_236 : decode cX12_roll 236 = .ok (.iadd, 1) := by decide +kernel
theorem dX12_roll_237 : decode cX12_roll 237 = .ok (.putfield 63, 3) := by decide +kernel
theorem dX12_roll_240 : decode cX12_roll 240 = .ok (.goto (-189), 3) := by decide +kernel
theorem dX12_roll_243 : decode cX12_roll 243 = .ok (.aload_n 0, 1) := by decide +kernel
theorem dX12_roll_244 : decode cX12_roll 244 = .ok (.iconst 0, 1) := by decide +kernel
theorem dX12_roll_245 : decode cX12_roll 245 = .ok (.putfield 70, 3) := by decide +kernel
theorem dX12_roll_248 : decode cX12_roll 248 = .ok (.aload_n 0, 1) := by decide +kernel
theorem dX12_roll_249 : decode cX12_roll 249 = .ok (.getfield 63, 3) := by decide +kernel
theorem dX12_roll_252 : decode cX12_roll 252 = .ok (.ireturn, 1) := by decide +kernel
theorem dX12_dog_0 : decode cX12_dog 0 = .ok (.aload_n 0, 1) := by decide +kernel
theorem dX12_dog_1 : decode cX12_dog 1 = .ok (.iload_n 1, 1) := by decide +kernel
theorem dX12_dog_2 : decode cX12_dog 2 = .ok (.invokevirtual 80, 3) := by decide +kernel
theorem dX12_dog_5 : decode cX12_dog 5 = .ok (.ifCond .ne 5, 3) := by decide +kernel
theorem dX12_dog_8 : decode cX12_dog 8 = .ok (.iconst (-1), 1) := by decide +kernel
theorem dX12_dog_9 : decode cX12_dog 9 = .ok (.ireturn, 1) := by decide +kernel
theorem dX12_dog_10 : decode cX12_dog 10 = .ok (.iload_n 2, 1) := by decide +kernel
theorem dX12_dog_11 : decode cX12_dog 11 = .ok (.ifCond .ne 12, 3) := by decide +kernel
theorem dX12_dog_14 : decode cX12_dog 14 = .ok (.aload_n 0, 1) := by decide +kernel
theorem dX12_dog_15 : decode cX12_dog 15 = .ok (.getfield 7, 3) := by decide +kernel
theorem dX12_dog_18 : decode cX12_dog 18 = .ok (.iload_n 1, 1) := by decide +kernel
theorem dX12_dog_19 : decode cX12_dog 19 = .ok (.iaload, 1) := by decide +kernel
theorem dX12_dog_20 : decode cX12_dog 20 = .ok (.goto 50, 3) := by decide +kernel
theorem dX12_dog_23 : decode cX12_dog 23 = .ok (.iload_n 2, 1) := by decide +kernel
theorem dX12_dog_24 : decode cX12_dog 24 = .ok (.iconst 1, 1) := by decide +kernel
theorem dX12_dog_25 : decode cX12_dog 25 = .ok (.if_icmp .ne 29, 3) := by decide +kernel
theorem dX12_dog_28 : decode cX12_dog 28 = .ok (.aload_n 0, 1) := by decide +kernel
theorem dX12_dog_29 : decode cX12_dog 29 = .ok (.getfield 16, 3) := by decide +kernel
theorem dX12_dog_32 : decode cX12_dog 32 = .ok (.iload_n 1, 1) := by decide +kernel
theorem dX12_dog_33 : decode cX12_dog 33 = .ok (.baload, 1) := by decide +kernel
theorem dX12_dog_34 : decode cX12_dog 34 = .ok (.ifCond .eq 15, 3) := by decide +kernel
theorem dX12_dog_37 : decode cX12_dog 37 = .ok (.aload_n 0, 1) := by decide +kernel
theorem dX12_dog_38 : decode cX12_dog 38 = .ok (.getfield 13, 3) := by decide +kernel
theorem dX12_dog_41 : decode cX12_dog 41 = .ok (.iload_n 1, 1) := by decide +kernel
theorem dX12_dog_42 : decode cX12_dog 42 = .ok (.iaload, 1) := by decide +kernel
theorem dX12_dog_43 : decode cX12_dog 43 = .ok (.bipush 9, 2) := by decide +kernel
theorem dX12_dog_45 : decode cX12_dog 45 = .ok (.iadd, 1) := by decide +kernel
theorem dX12_dog_46 : decode cX12_dog 46 = .ok (.goto 24, 3) := by decide +kernel
theorem dX12_dog_49 : decode cX12_dog 49 = .ok (.bipush (-6), 2) := by decide +kernel
theorem dX12_dog_51 : decode cX12_dog 51 = .ok (.goto 19, 3) := by decide +kernel
theorem dX12_dog_54 : decode cX12_dog 54 = .ok (.iload_n 2, 1) := by decide +kernel
theorem dX12_dog_55 : decode cX12_dog 55 = .ok (.iconst 2, 1) := by decide +kernel
theorem dX12_dog_56 : decode cX12_dog 56 = .ok (.if_icmp .ne 12, 3) := by decide +kernel
theorem dX12_dog_59 : decode cX12_dog 59 = .ok (.aload_n 0, 1) := by decide +kernel
theorem dX12_dog_60 : decode cX12_dog 60 = .ok (.getfield 20, 3) := by decide +kernel
theorem dX12_dog_63 : decode cX12_dog 63 = .ok (.iload_n 1, 1) := by decide +kernel
theorem dX12_dog_64 : decode cX12_dog 64 = .ok (.iaload, 1) := by decide +kernel
theorem dX12_dog_65 : decode cX12_dog 65 = .ok (.goto 5, 3) := by decide +kernel
theorem dX12_dog_68 : decode cX12_dog 68 = .ok (.bipush (-2), 2) := by decide +kernel
theorem dX12_dog_70 : decode cX12_dog 70 = .ok (.ireturn, 1) := by decide +kernel
theorem dX12_heir_0 : decode cX12_heir 0 = .ok (.aload_n 0, 1) := by decide +kernel
theorem dX12_heir_1 : decode cX12_heir 1 = .ok (.iload_n 1, 1) := by decide +kernel
theorem dX12_heir_2 : decode cX12_heir 2 = .ok (.invokevirtual 80, 3) := by decide +kernel
theorem dX12_heir_5 : decode cX12_heir 5 = .ok (.ifCond .eq 21, 3) := by decide +kernel
theorem dX12_heir_8 : decode cX12_heir 8 = .ok (.iload_n 2, 1) := by decide +kernel
theorem dX12_heir_9 : decode cX12_heir 9 = .ok (.iconst (-1), 1) := by decide +kernel
theorem dX12_heir_10 : decode cX12_heir 10 = .ok (.if_icmp .eq 11, 3) := by decide +kernel
theorem dX12_heir_13 : decode cX12_heir 13 = .ok (.aload_n 0, 1) := by decide +kernel
theorem dX12_heir_14 : decode cX12_heir 14 = .ok (.iload_n 2, 1) := by decide +kernel
theorem dX12_heir_15 : decode cX12_heir 15 = .ok (.invokevirtual 80, 3) := by decide +kernel
theorem dX12_heir_18 : decode cX12_heir 18 = .ok (.ifCond .eq 8, 3) := by decide +kernel
theorem dX12_heir_21 : decode cX12_heir 21 = .ok (.iload_n 1, 1) := by decide +kernel
theorem dX12_heir_22 : decode cX12_heir 22 = .ok (.iload_n 2, 1) := by decide +kernel
theorem dX12_heir_23 : decode cX12_heir 23 = .ok (.if_icmp .ne 5, 3) := by decide +kernel
theorem dX12_heir_26 : decode cX12_heir 26 = .ok (.iconst (-1), 1) := by decide +kernel
theorem dX12_heir_27 : decode cX12_heir 27 = .ok (.ireturn, 1) := by decide +kernel
theorem dX12_heir_28 : decode cX12_heir 28 = .ok (.aload_n 0, 1) := by decide +kernel
theorem dX12_heir_29 : decode cX12_heir 29 = .ok (.getfield 23, 3) := by decide +kernel
theorem dX12_heir_32 : decode cX12_heir 32 = .ok (.iload_n 1, 1) := by decide +kernel
theorem dX12_heir_33 : decode cX12_heir 33 = .ok (.iaload, 1) := by decide +kernel
theorem dX12_heir_34 : decode cX12_heir 34 = .ok (.istore_n 3, 1) := by decide +kernel
theorem dX12_heir_35 : decode cX12_heir 35 = .ok (.aload_n 0, 1) := by decide +kernel
theorem dX12_heir_36 : decode cX12_heir 36 = .ok (.getfield 23, 3) := by decide +kernel
theorem dX12_heir_39 : decode cX12_heir 39 = .ok (.iload_n 1, 1) := by decide +kernel
theorem dX12_heir_40 : decode cX12_heir 40 = .ok (.iload_n 2, 1) := by decide +kernel
theorem dX12_heir_41 : decode cX12_heir 41 = .ok (.ifCond .ge 8, 3) := by decide +kernel
theorem dX12_heir_44 : decode cX12_heir 44 = .ok (.bipush (-6), 2) := by decide +kernel
theorem dX12_heir_46 : decode cX12_heir 46 = .ok (.goto 4, 3) := by decide +kernel
theorem dX12_heir_49 : decode cX12_heir 49 = .ok (.iload_n 2, 1) := by decide +kernel
theorem dX12_heir_50 : decode cX12_heir 50 = .ok (.iastore, 1) := by decide +kernel
theorem dX12_heir_51 : decode cX12_heir 51 = .ok (.iload_n 3, 1) := by decide +kernel
theorem dX12_heir_52 : decode cX12_heir 52 = .ok (.ireturn, 1) := by decide +kernel
theorem dX12_dies_0 : decode cX12_dies 0 = .ok (.aload_n 0, 1) := by decide +kernel
theorem dX12_dies_1 : decode cX12_dies 1 = .ok (.iload_n 1, 1) := by decide +kernel
theorem dX12_dies_2 : decode cX12_dies 2 = .ok (.invokevirtual 80, 3) := by decide +kernel
theorem dX12_dies_5 : decode cX12_dies 5 = .ok (.ifCond .ne 5, 3) := by decide +kernel
theorem dX12_dies_8 : decode cX12_dies 8 = .ok (.iconst (-1), 1) := by decide +kernel
theorem dX12_dies_9 : decode cX12_dies 9 = .ok (.ireturn, 1) := by decide +kernel
theorem dX12_dies_10 : decode cX12_dies 10 = .ok (.aload_n 0, 1) := by decide +kernel
theorem dX12_dies_11 : decode cX12_dies 11 = .ok (.getfield 7, 3) := by decide +kernel
theorem dX12_dies_14 : decode cX12_dies 14 = .ok (.iload_n 1, 1) := by decide +kernel
theorem dX12_dies_15 : decode cX12_dies 15 = .ok (.iaload, 1) := by decide +kernel
theorem dX12_dies_16 : decode cX12_dies 16 = .ok (.ifCond .ne 6, 3) := by decide +kernel
theorem dX12_dies_19 : decode cX12_dies 19 = .ok (.bipush (-3), 2) := by decide +kernel
theorem dX12_dies_21 : decode cX12_dies 21 = .ok (.ireturn, 1) := by decide +kernel
theorem dX12_dies_22 : decode cX12_dies 22 = .ok (.aload_n 0, 1) := by decide +kernel
theorem dX12_dies_23 : decode cX12_dies 23 = .ok (.getfield 7, 3) := by decide +kernel
theorem dX12_dies_26 : decode cX12_dies 26 = .ok (.iload_n 1, 1) := by decide +kernel
theorem dX12_dies_27 : decode cX12_dies 27 = .ok (.iaload, 1) := by decide +kernel
theorem dX12_dies_28 : decode cX12_dies 28 = .ok (.istore_n 2, 1) := by decide +kernel
theorem dX12_dies_29 : decode cX12_dies 29 = .ok (.aload_n 0, 1) := by decide +kernel
theorem dX12_dies_30 : decode cX12_dies 30 = .ok (.getfield 7, 3) := by decide +kernel
theorem dX12_dies_33 : decode cX12_dies 33 = .ok (.iload_n 1, 1) := by decide +kernel
theorem dX12_dies_34 : decode cX12_dies 34 = .ok (.iconst 0, 1) := by decide +kernel
theorem dX12_dies_35 : decode cX12_dies 35 = .ok (.iastore, 1) := by decide +kernel
theorem dX12_dies_36 : decode cX12_dies 36 = .ok (.aload_n 0, 1) := by decide +kernel
theorem dX12_dies_37 : decode cX12_dies 37 = .ok (.getfield 23, 3) := by decide +kernel
theorem dX12_dies_40 : decode cX12_dies 40 = .ok (.iload_n 1, 1) := by decide +kernel
theorem dX12_dies_41 : decode cX12_dies 41 = .ok (.iaload, 1) := by decide +kernel
theorem dX12_dies_42 : decode cX12_dies 42 = .ok (.istore_n 3, 1) := by decide +kernel
theorem dX12_dies_43 : decode cX12_dies 43 = .ok (.iconst 0, 1) := by decide +kernel
theorem dX12_dies_44 : decode cX12_dies 44 = .ok (.istore 4, 2) := by decide +kernel
theorem dX12_dies_46 : decode cX12_dies 46 = .ok (.iload 4, 2) := by decide +kernel
theorem dX12_dies_48 : decode cX12_dies 48 = .ok (.bipush 7, 2) := by decide +kernel
theorem dX12_dies_50 : decode cX12_dies 50 = .ok (.if_icmp .ge 29, 3) := by decide +kernel
theorem dX12_dies_53 : decode cX12_dies 53 = .ok (.iload_n 3, 1) := by decide +kernel
theorem dX12_dies_54 : decode cX12_dies 54 = .ok (.ifCond .lt 25, 3) := by decide +kernel
theorem dX12_dies_57 : decode cX12_dies 57 = .ok (.aload_n 0, 1) := by decide +kernel
theorem dX12_dies_58 : decode cX12_dies 58 = .ok (.getfield 7, 3) := by decide +kernel
theorem dX12_dies_61 : decode cX12_dies 61 = .ok (.iload_n 3, 1) := by decide +kernel
theorem dX12_dies_62 : decode cX12_dies 62 = .ok (.iaload, 1) := by decide +kernel
theorem dX12_dies_63 : decode cX12_dies 63 = .ok (.ifCond .ne 16, 3) := by decide +kernel
theorem dX12_dies_66 : decode cX12_dies 66 = .ok (.aload_n 0, 1) := by decide +kernel
theorem dX12_dies_67 : decode cX12_dies 67 = .ok (.getfield 23, 3) := by decide +kernel
theorem dX12_dies_70 : decode cX12_dies 70 = .ok (.iload_n 3, 1) := by decide +kernel
theorem dX12_dies_71 : decode cX12_dies 71 = .ok (.iaload, 1) := by decide +kernel
theorem dX12_dies_72 : decode cX12_dies 72 = .ok (.istore_n 3, 1) := by decide +kernel
theorem dX12_dies_73 : decode cX12_dies 73 = .ok (.iinc 4 1, 3) := by decide +kernel
theorem dX12_dies_76 : decode cX12_dies 76 = .ok (.goto (-30), 3) := by decide +kernel
theorem dX12_dies_79 : decode cX12_dies 79 = .ok (.iload_n 3, 1) := by decide +kernel
theorem dX12_dies_80 : decode cX12_dies 80 = .ok (.ifCond .lt 12, 3) := by decide +kernel
theorem dX12_dies_83 : decode cX12_dies 83 = .ok (.aload_n 0, 1) := by decide +kernel
theorem dX12_dies_84 : decode cX12_dies 84 = .ok (.getfield 7, 3) := by decide +kernel
theorem dX12_dies_87 : decode cX12_dies 87 = .ok (.iload_n 3, 1) := by decide +kernel
theorem dX12_dies_88 : decode cX12_dies 88 = .ok (.iaload, 1) := by decide +kernel
theorem dX12_dies_89 : decode cX12_dies 89 = .ok (.ifCond .ne 5, 3) := by decide +kernel
theorem dX12_dies_92 : decode cX12_dies 92 = .ok (.iload_n 2, 1) := by decide +kernel
theorem dX12_dies_93 : decode cX12_dies 93 = .ok (.ireturn, 1) := by decide +kernel
theorem dX12_dies_94 : decode cX12_dies 94 = .ok (.aload_n 0, 1) := by decide +kernel
theorem dX12_dies_95 : decode cX12_dies 95 = .ok (.getfield 7, 3) := by decide +kernel
theorem dX12_dies_98 : decode cX12_dies 98 = .ok (.iload_n 3, 1) := by decide +kernel
theorem dX12_dies_99 : decode cX12_dies 99 = .ok (.iaload, 1) := by decide +kernel
theorem dX12_dies_100 : decode cX12_dies 100 = .ok (.iload_n 2, 1) := by decide +kernel
theorem dX12_dies_101 : decode cX12_dies 101 = .ok (.iadd, 1) := by decide +kernel
theorem dX12_dies_102 : decode cX12_dies 102 = .ok (.istore 4, 2) := by decide +kernel
theorem dX12_dies_104 : decode cX12_dies 104 = .ok (.aload_n 0, 1) := by decide +kernel
theorem dX12_dies_105 : decode cX12_dies 105 = .ok (.getfield 7, 3) := by decide +kernel
theorem dX12_dies_108 : decode cX12_dies 108 = .ok (.iload_n 3, 1) := by decide +kernel
theorem dX12_dies_109 : decode cX12_dies 109 = .ok (.iload 4, 2) := by decide +kernel
theorem dX12_dies_111 : decode cX12_dies 111 = .ok (.bipush 9, 2) := by decide +kernel
theorem dX12_dies_113 : decode cX12_dies 113 = .ok (.if_icmp .le 8, 3) := by decide +kernel
theorem dX12_dies_116 : decode cX12_dies 116 = .ok (.bipush 9, 2) := by decide +kernel
theorem dX12_dies_118 : decode cX12_dies 118 = .ok (.goto 5, 3) := by decide +kernel
theorem dX12_dies_121 : decode cX12_dies 121 = .ok (.iload 4, 2) := by decide +kernel
theorem dX12_dies_123 : decode cX12_dies 123 = .ok (.iastore, 1) := by decide +kernel
theorem dX12_dies_124 : decode cX12_dies 124 = .ok (.iload 4, 2) := by decide +kernel
theorem dX12_dies_126 : decode cX12_dies 126 = .ok (.aload_n 0, 1) := by decide +kernel
theorem dX12_dies_127 : decode cX12_dies 127 = .ok (.getfield 7, 3) := by decide +kernel
theorem dX12_dies_130 : decode cX12_dies 130 = .ok (.iload_n 3, 1) := by decide +kernel
theorem dX12_dies_131 : decode cX12_dies 131 = .ok (.iaload, 1) := by decide +kernel
theorem dX12_dies_132 : decode cX12_dies 132 = .ok (.isub, 1) := by decide +kernel
theorem dX12_dies_133 : decode cX12_dies 133 = .ok (.ireturn, 1) := by decide +kernel
theorem dX12_byLetters_0 : decode cX12_byLetters 0 = .ok (.iconst 0, 1) := by decide +kernel
theorem dX12_byLetters_1 : decode cX12_byLetters 1 = .ok (.istore_n 1, 1) := by decide +kernel
theorem dX12_byLetters_2 : decode cX12_byLetters 2 = .ok (.iload_n 1, 1) := by decide +kernel
theorem dX12_byLetters_3 : decode cX12_byLetters 3 = .ok (.bipush 7, 2) := by decide +kernel
theorem dX12_byLetters_5 : decode cX12_byLetters 5 = .ok (.if_icmp .ge 16, 3) := by decide +kernel
theorem dX12_byLetters_8 : decode cX12_byLetters 8 = .ok (.aload_n 0, 1) := by decide +kernel
theorem dX12_byLetters_9 : decode cX12_byLetters 9 = .ok (.getfield 39, 3) := by decide +kernel
theorem dX12_byLetters_12 : decode cX12_byLetters 12 = .ok (.iload_n 1, 1) := by decide +kernel
theorem dX12_byLetters_13 : decode cX12_byLetters 13 = .ok (.iload_n 1, 1) := by decide +kernel
theorem dX12_byLetters_14 : decode cX12_byLetters 14 = .ok (.iastore, 1) := by decide +kernel
theorem dX12_byLetters_15 : decode cX12_byLetters 15 = .ok (.iinc 1 1, 3) := by decide +kernel
theorem dX12_byLetters_18 : decode cX12_byLetters 18 = .ok (.goto (-16), 3) := by decide +kernel
theorem dX12_byLetters_21 : decode cX12_byLetters 21 = .ok (.return_, 1) := by decide +kernel
theorem dX12_nobodyFull_0 : decode cX12_nobodyFull 0 = .ok (.iconst 0, 1) := by decide +kernel
theorem dX12_nobodyFull_1 : decode cX12_nobodyFull 1 = .ok (.istore_n 1, 1) := by decide +kernel
theorem dX12_nobodyFull_2 : decode cX12_nobodyFull 2 = .ok (.iload_n 1, 1) := by decide +kernel
theorem dX12_nobodyFull_3 : decode cX12_nobodyFull 3 = .ok (.bipush 7, 2) := by decide +kernel
theorem dX12_nobodyFull_5 : decode cX12_nobodyFull 5 = .ok (.if_icmp .ge 16, 3) := by decide +kernel
theorem dX12_nobodyFull_8 : decode cX12_nobodyFull 8 = .ok (.aload_n 0, 1) := by decide +kernel
theorem dX12_nobodyFull_9 : decode cX12_nobodyFull 9 = .ok (.getfield 45, 3) := by decide +kernel
theorem dX12_nobodyFull_12 : decode cX12_nobodyFull 12 = .ok (.iload_n 1, 1) := by decide +kernel
theorem dX12_nobodyFull_13 : decode cX12_nobodyFull 13 = .ok (.iconst 0, 1) := by decide +kernel
theorem dX12_nobodyFull_14 : decode cX12_nobodyFull 14 = .ok (.iastore, 1) := by decide +kernel
theorem dX12_nobodyFull_15 : decode cX12_nobodyFull 15 = .ok (.iinc 1 1, 3) := by decide +kernel
theorem dX12_nobodyFull_18 : decode cX12_nobodyFull 18 = .ok (.goto (-16), 3) := by decide +kernel
theorem dX12_nobodyFull_21 : decode cX12_nobodyFull 21 = .ok (.return_, 1) := by decide +kernel
theorem dX12_isFeared_0 : decode cX12_isFeared 0 = .ok (.iconst 0, 1) := by decide +kernel
theorem dX12_isFeared_1 : decode cX12_isFeared 1 = .ok (.istore_n 3, 1) := by decide +kernel
theorem dX12_isFeared_2 : decode cX12_isFeared 2 = .ok (.iconst 0, 1) := by decide +kernel
theorem dX12_isFeared_3 : decode cX12_isFeared 3 = .ok (.istore 4, 2) := by decide +kernel
theorem dX12_isFeared_5 : decode cX12_isFeared 5 = .ok (.iload 4, 2) := by decide +kernel
theorem dX12_isFeared_7 : decode cX12_isFeared 7 = .ok (.aload_n 0, 1) := by decide +kernel
theorem dX12_isFeared_8 : decode cX12_isFeared 8 = .ok (.getfield 63, 3) := by decide +kernel
theorem dX12_isFeared_11 : decode cX12_isFeared 11 = .ok (.if_icmp .ge 44, 3) := by decide +kernel
theorem dX12_isFeared_14 : decode cX12_isFeared 14 = .ok (.iload_n 3, 1) := by decide +kernel
theorem dX12_isFeared_15 : decode cX12_isFeared 15 = .ok (.ifCond .ne 28, 3) := by decide +kernel
theorem dX12_isFeared_18 : decode cX12_isFeared 18 = .ok (.aload_n 0, 1) := by decide +kernel
theorem dX12_isFeared_19 : decode cX12_isFeared 19 = .ok (.getfield 20, 3) := by decide +kernel
theorem dX12_isFeared_22 : decode cX12_isFeared 22 = .ok (.iload_n 1, 1) := by decide +kernel
theorem dX12_isFeared_23 : decode cX12_isFeared 23 = .ok (.iaload, 1) := by decide +kernel
theorem dX12_isFeared_24 : decode cX12_isFeared 24 = .ok (.iload 4, 2) := by decide +kernel
theorem dX12_isFeared_26 : decode cX12_isFeared 26 = .ok (.invokestatic 84, 3) := by decide +kernel
theorem dX12_isFeared_29 : decode cX12_isFeared 29 = .ok (.ifCond .eq 18, 3) := by decide +kernel
theorem dX12_isFeared_32 : decode cX12_isFeared 32 = .ok (.aload_n 0, 1) := by decide +kernel
theorem dX12_isFeared_33 : decode cX12_isFeared 33 = .ok (.getfield 42, 3) := by decide +kernel
theorem dX12_isFeared_36 : decode cX12_isFeared 36 = .ok (.iload 4, 2) := by decide +kernel
theorem dX12_isFeared_38 : decode cX12_isFeared 38 = .ok (.iaload, 1) := by decide +kernel
theorem dX12_isFeared_39 : decode cX12_isFeared 39 = .ok (.iload_n 2, 1) := by decide +kernel
theorem dX12_isFeared_40 : decode cX12_isFeared 40 = .ok (.if_icmp .ne 7, 3) := by decide +kernel
theorem dX12_isFeared_43 : decode cX12_isFeared 43 = .ok (.iconst 1, 1) := by decide +kernel
theorem dX12_isFeared_44 : decode cX12_isFeared 44 = .ok (.goto 4, 3) := by decide +kernel
theorem dX12_isFeared_47 : decode cX12_isFeared 47 = .ok (.iconst 0, 1) := by decide +kernel
theorem dX12_isFeared_48 : decode cX12_isFeared 48 = .ok (.istore_n 3, 1) := by decide +kernel
theorem dX12_isFeared_49 : decode cX12_isFeared 49 = .ok (.iinc 4 1, 3) := by decide +kernel
theorem dX12_isFeared_52 : decode cX12_isFeared 52 = .ok (.goto (-47), 3) := by decide +kernel
theorem dX12_isFeared_55 : decode cX12_isFeared 55 = .ok (.iload_n 3, 1) := by decide +kernel
theorem dX12_isFeared_56 : decode cX12_isFeared 56 = .ok (.ireturn, 1) := by decide +kernel
theorem dX12_letGo_0 : decode cX12_letGo 0 = .ok (.aload_n 0, 1) := by decide +kernel
theorem dX12_letGo_1 : decode cX12_letGo 1 = .ok (.iconst 0, 1) := by decide +kernel
theorem dX12_letGo_2 : decode cX12_letGo 2 = .ok (.putfield 88, 3) := by decide +kernel
theorem dX12_letGo_5 : decode cX12_letGo 5 = .ok (.aload_n 0, 1) := by decide +kernel
theorem dX12_letGo_6 : decode cX12_letGo 6 = .ok (.iconst 0, 1) := by decide +kernel
theorem dX12_letGo_7 : decode cX12_letGo 7 = .ok (.putfield 91, 3) := by decide +kernel
theorem dX12_letGo_10 : decode cX12_letGo 10 = .ok (.iconst 0, 1) := by decide +kernel
theorem dX12_letGo_11 : decode cX12_letGo 11 = .ok (.istore 4, 2) := by decide +kernel
theorem dX12_letGo_13 : decode cX12_letGo 13 = .ok (.iload 4, 2) := by decide +kernel
theorem dX12_letGo_15 : decode cX12_letGo 15 = .ok (.bipush 7, 2) := by decide +kernel
theorem dX12_letGo_17 : decode cX12_letGo 17 = .ok (.if_icmp .ge 17, 3) := by decide +kernel
theorem dX12_letGo_20 : decode cX12_letGo 20 = .ok (.aload_n 0, 1) := by decide +kernel
theorem dX12_letGo_21 : decode cX12_letGo 21 = .ok (.getfield 42, 3) := by decide +kernel
theorem dX12_letGo_24 : decode cX12_letGo 24 = .ok (.iload 4, 2) := by decide +kernel
theorem dX12_letGo_26 : decode cX12_letGo 26 = .ok (.iconst 2, 1) := by decide +kernel
theorem dX12_letGo_27 : decode cX12_letGo 27 = .ok (.iastore, 1) := by decide +kernel
theorem dX12_letGo_28 : decode cX12_letGo 28 = .ok (.iinc 4 1, 3) := by decide +kernel
theorem dX12_letGo_31 : decode cX12_letGo 31 = .ok (.goto (-18), 3) := by decide +kernel
theorem dX12_letGo_34 : decode cX12_letGo 34 = .ok (.iconst 0, 1) := by decide +kernel
theorem dX12_letGo_35 : decode cX12_letGo 35 = .ok (.istore 4, 2) := by decide +kernel
theorem dX12_letGo_37 : decode cX12_letGo 37 = .ok (.iload 4, 2) := by decide +kernel
theorem dX12_letGo_39 : decode cX12_letGo 39 = .ok (.aload_n 0, 1) := by decide +kernel
theorem dX12_letGo_40 : decode cX12_letGo 40 = .ok (.getfield 63, 3) := by decide +kernel
theorem dX12_letGo_43 : decode cX12_letGo 43 = .ok (.if_icmp .ge 200, 3) := by decide +kernel
theorem dX12_letGo_46 : decode cX12_letGo 46 = .ok (.aload_n 0, 1) := by decide +kernel
theorem dX12_letGo_47 : decode cX12_letGo 47 = .ok (.getfield 39, 3) := by decide +kernel
theorem dX12_letGo_50 : decode cX12_letGo 50 = .ok (.iload 4, 2) := by decide +kernel
theorem dX12_letGo_52 : decode cX12_letGo 52 = .ok (.iaload, 1) := by decide +kernel
theorem dX12_letGo_53 : decode cX12_letGo 53 = .ok (.istore 5, 2) := by decide +kernel
theorem dX12_letGo_55 : decode cX12_letGo 55 = .ok (.aload_n 0, 1) := by decide +kernel
theorem dX12_letGo_56 : decode cX12_letGo 56 = .ok (.getfield 7, 3) := by decide +kernel
theorem dX12_letGo_59 : decode cX12_letGo 59 = .ok (.iload 5, 2) := by decide +kernel
theorem dX12_letGo_61 : decode cX12_letGo 61 = .ok (.iaload, 1) := by decide +kernel
theorem dX12_letGo_62 : decode cX12_letGo 62 = .ok (.ifCond .le 175, 3) := by decide +kernel
theorem dX12_letGo_65 : decode cX12_letGo 65 = .ok (.iload 5, 2) := by decide +kernel
theorem dX12_letGo_67 : decode cX12_letGo 67 = .ok (.iload_n 3, 1) := by decide +kernel
theorem dX12_letGo_68 : decode cX12_letGo 68 = .ok (.if_icmp .eq 169, 3) := by decide +kernel
theorem dX12_letGo_71 : decode cX12_letGo 71 = .ok (.aload_n 0, 1) := by decide +kernel
theorem dX12_letGo_72 : decode cX12_letGo 72 = .ok (.getfield 13, 3) := by decide +kernel
theorem dX12_letGo_75 : decode cX12_letGo 75 = .ok (.iload 5, 2) := by decide +kernel
theorem dX12_letGo_77 : decode cX12_letGo 77 = .ok (.iaload, 1) := by decide +kernel
theorem dX12_letGo_78 : decode cX12_letGo 78 = .ok (.aload_n 0, 1) := by decide +kernel
theorem dX12_letGo_79 : decode cX12_letGo 79 = .ok (.getfield 45, 3) := by decide +kernel
theorem dX12_letGo_82 : decode cX12_letGo 82 = .ok (.iload 5, 2) := by decide +kernel
theorem dX12_letGo_84 : decode cX12_letGo 84 = .ok (.iaload, 1) := by decide +kernel
theorem dX12_letGo_85 : decode cX12_letGo 85 = .ok (.aload_n 0, 1) := by decide +kernel
theorem dX12_letGo_86 : decode cX12_letGo 86 = .ok (.getfield 26, 3) := by decide +kernel
theorem dX12_letGo_89 : decode cX12_letGo 89 = .ok (.if_icmp .lt 7, 3) := by decide +kernel
theorem dX12_letGo_92 : decode cX12_letGo 92 = .ok (.iconst 0, 1) := by decide +kernel
theorem dX12_letGo_93 : decode cX12_letGo 93 = .ok (.goto 6, 3) := by decide +kernel
theorem dX12_letGo_96 : decode cX12_letGo 96 = .ok (.iload_n 1, 1) := by decide +kernel
theorem dX12_letGo_97 : decode cX12_letGo 97 = .ok (.iload_n 2, 1) := by decide +kernel
theorem dX12_letGo_98 : decode cX12_letGo 98 = .ok (.isub, 1) := by decide +kernel
theorem dX12_letGo_99 : decode cX12_letGo 99 = .ok (.iadd, 1) := by decide +kernel
theorem dX12_letGo_100 : decode cX12_letGo 100 = .ok (.istore 6, 2) := by decide +kernel
theorem dX12_letGo_102 : decode cX12_letGo 102 = .ok (.iload 6, 2) := by decide +kernel
theorem dX12_letGo_104 : decode cX12_letGo 104 = .ok (.ifCond .le 7, 3) := by decide +kernel
theorem dX12_letGo_107 : decode cX12_letGo 107 = .ok (.iconst 0, 1) := by decide +kernel
theorem dX12_letGo_108 : decode cX12_letGo 108 = .ok (.goto 28, 3) := by decide +kernel
theorem dX12_letGo_111 : decode cX12_letGo 111 = .ok (.iload 6, 2) := by decide +kernel
theorem dX12_letGo_113 : decode cX12_letGo 113 = .ok (.ifCond .ge 7, 3) := by decide +kernel
theorem dX12_letGo_116 : decode cX12_letGo 116 = .ok (.iconst 1, 1) := by decide +kernel
theorem dX12_letGo_117 : decode cX12_letGo 117 = .ok (.goto 19, 3) := by decide +kernel
theorem dX12_letGo_120 : decode cX12_letGo 120 = .ok (.aload_n 0, 1) := by decide +kernel
theorem dX12_letGo_121 : decode cX12_letGo 121 = .ok (.getfield 91, 3) := by decide +kernel
theorem dX12_letGo_124 : decode cX12_letGo 124 = .ok (.aload_n 0, 1) := by decide +kernel
theorem dX12_letGo_125 : decode cX12_letGo 125 = .ok (.getfield 88, 3) := by decide +kernel
theorem dX12_letGo_128 : decode cX12_letGo 128 = .ok (.if_icmp .le 7, 3) := by decide +kernel
theorem dX12_letGo_131 : decode cX12_letGo 131 = .ok (.iconst 1, 1) := by decide +kernel
theorem dX12_letGo_132 : decode cX12_letGo 132 = .ok (.goto 4, 3) := by decide +kernel
theorem dX12_letGo_135 : decode cX12_letGo 135 = .ok (.iconst 0, 1) := by decide +kernel
theorem dX12_letGo_136 : decode cX12_letGo 136 = .ok (.istore 7, 2) := by decide +kernel
theorem dX12_letGo_138 : decode cX12_letGo 138 = .ok (.aload_n 0, 1) := by decide +kernel
theorem dX12_letGo_139 : decode cX12_letGo 139 = .ok (.iload 5, 2) := by decide +kernel
theorem dX12_letGo_141 : decode cX12_letGo 141 = .ok (.iload 7, 2) := by decide +kernel
theorem dX12_letGo_143 : decode cX12_letGo 143 = .ok (.invokevirtual 94, 3) := by decide +kernel
theorem dX12_letGo_146 : decode cX12_letGo 146 = .ok (.ifCond .ne 8, 3) := by decide +kernel
theorem dX12_letGo_149 : decode cX12_letGo 149 = .ok (.iload 7, 2) := by decide +kernel
theorem dX12_letGo_151 : decode cX12_letGo 151 = .ok (.goto 24, 3) := by decide +kernel
theorem dX12_letGo_154 : decode cX12_letGo 154 = .ok (.aload_n 0, 1) := by decide +kernel
theorem dX12_letGo_155 : decode cX12_letGo 155 = .ok (.iload 5, 2) := by decide +kernel
theorem dX12_letGo_157 : decode cX12_letGo 157 = .ok (.iconst 1, 1) := by decide +kernel
theorem dX12_letGo_158 : decode cX12_letGo 158 = .ok (.iload 7, 2) := by decide +kernel
theorem dX12_letGo_160 : decode cX12_letGo 160 = .ok (.isub, 1) := by decide +kernel
theorem dX12_letGo_161 : decode cX12_letGo 161 = .ok (.invokevirtual 94, 3) := by decide +kernel
theorem dX12_letGo_164 : decode cX12_letGo 164 = .ok (.ifCond .ne 10, 3) := by decide +kernel
theorem dX12_letGo_167 : decode cX12_letGo 167 = .ok (.iconst 1, 1) := by decide +kernel
theorem dX12_letGo_168 : decode cX12_letGo 168 = .ok (.iload 7, 2) := by decide +kernel
theorem dX12_letGo_170 : decode cX12_letGo 170 = .ok (.isub, 1) := by decide +kernel
theorem dX12_letGo_171 : decode cX12_letGo 171 = .ok (.goto 4, 3) := by decide +kernel
theorem dX12_letGo_174 : decode cX12_letGo 174 = .ok (.iconst 2, 1) := by decide +kernel
theorem dX12_letGo_175 : decode cX12_letGo 175 = .ok (.istore 7, 2) := by decide +kernel
theorem dX12_letGo_177 : decode cX12_letGo 177 = .ok (.aload_n 0, 1) := by decide +kernel
theorem dX12_letGo_178 : decode cX12_letGo 178 = .ok (.getfield 42, 3) := by decide +kernel
theorem dX12_letGo_181 : decode cX12_letGo 181 = .ok (.iload 5, 2) := by decide +kernel
theorem dX12_letGo_183 : decode cX12_letGo 183 = .ok (.iload 7, 2) := by decide +kernel
theorem dX12_letGo_185 : decode cX12_letGo 185 = .ok (.iastore, 1) := by decide +kernel
theorem dX12_letGo_186 : decode cX12_letGo 186 = .ok (.aload_n 0, 1) := by decide +kernel
theorem dX12_letGo_187 : decode cX12_letGo 187 = .ok (.dup, 1) := by decide +kernel
theorem dX12_letGo_188 : decode cX12_letGo 188 = .ok (.getfield 88, 3) := by decide +kernel
theorem dX12_letGo_191 : decode cX12_letGo 191 = .ok (.iload 7, 2) := by decide +kernel
theorem dX12_letGo_193 : decode cX12_letGo 193 = .ok (.ifCond .ne 13, 3) := by decide +kernel
theorem dX12_letGo_196 : decode cX12_letGo 196 = .ok (.aload_n 0, 1) := by decide +kernel
theorem dX12_letGo_197 : decode cX12_letGo 197 = .ok (.getfield 7, 3) := by decide +kernel
theorem dX12_letGo_200 : decode cX12_letGo 200 = .ok (.iload 5, 2) := by decide +kernel
theorem dX12_letGo_202 : decode cX12_letGo 202 = .ok (.iaload, 1) := by decide +kernel
theorem dX12_letGo_203 : decode cX12_letGo 203 = .ok (.goto 4, 3) := by decide +kernel
theorem dX12_letGo_206 : decode cX12_letGo 206 = .ok (.iconst 0, 1) := by decide +kernel
theorem dX12_letGo_207 : decode cX12_letGo 207 = .ok (.iadd, 1) := by decide +kernel
theorem dX12_letGo_208 : decode cX12_letGo 208 = .ok (.putfield 88, 3) := by decide +kernel
theorem dX12_letGo_211 : decode cX12_letGo 211 = .ok (.aload_n 0, 1) := by decide +kernel
theorem dX12_letGo_212 : decode cX12_letGo 212 = .ok (.dup, 1) := by decide +kernel
theorem dX12_letGo_213 : decode cX12_letGo 213 = .ok (.getfield 91, 3) := by decide +kernel
theorem dX12_letGo_216 : decode cX12_letGo 216 = .ok (.iload 7, 2) := by decide +kernel
theorem dX12_letGo_218 : decode cX12_letGo 218 = .ok (.iconst 1, 1) := by decide +kernel
theorem dX12_letGo_219 : decode cX12_letGo 219 = .ok (.if_icmp .ne 13, 3) := by decide +kernel
theorem dX12_letGo_222 : decode cX12_letGo 222 = .ok (.aload_n 0, 1) := by decide +kernel
theorem dX12_letGo_223 : decode cX12_letGo 223 = .ok (.getfield 7, 3) := by decide +kernel
theorem dX12_letGo_226 : decode cX12_letGo 226 = .ok (.iload 5, 2) := by decide +kernel
theorem dX12_letGo_228 : decode cX12_letGo 228 = .ok (.iaload, 1) := by decide +kernel
theorem dX12_letGo_229 : decode cX12_letGo 229 = .ok (.goto 4, 3) := by decide +kernel
theorem dX12_letGo_232 : decode cX12_letGo 232 = .ok (.iconst 0, 1) := by decide +kernel
theorem dX12_letGo_233 : decode cX12_letGo 233 = .ok (.iadd, 1) := by decide +kernel
theorem dX12_letGo_234 : decode cX12_letGo 234 = .ok (.putfield 91, 3) := by decide +kernel
theorem dX12_letGo_237 : decode cX12_letGo 237 = .ok (.iinc 4 1, 3) := by decide +kernel
theorem dX12_letGo_240 : decode cX12_letGo 240 = .ok (.goto (-203), 3) := by decide +kernel
theorem dX12_letGo_243 : decode cX12_letGo 243 = .ok (.iconst 0, 1) := by decide +kernel
theorem dX12_letGo_244 : decode cX12_letGo 244 = .ok (.istore 4, 2) := by decide +kernel
theorem dX12_letGo_246 : decode cX12_letGo 246 = .ok (.iload 4, 2) := by decide +kernel
theorem dX12_letGo_248 : decode cX12_letGo 248 = .ok (.aload_n 0, 1) := by decide +kernel
theorem dX12_letGo_249 : decode cX12_letGo 249 = .ok (.getfield 63, 3) := by decide +kernel
theorem dX12_letGo_252 : decode cX12_letGo 252 = .ok (.if_icmp .ge 53, 3) := by decide +kernel
theorem dX12_letGo_255 : decode cX12_letGo 255 = .ok (.aload_n 0, 1) := by decide +kernel
theorem dX12_letGo_256 : decode cX12_letGo 256 = .ok (.getfield 45, 3) := by decide +kernel
theorem dX12_letGo_259 : decode cX12_letGo 259 = .ok (.iload 4, 2) := by decide +kernel
theorem dX12_letGo_261 : decode cX12_letGo 261 = .ok (.dup2, 1) := by decide +kernel
theorem dX12_letGo_262 : decode cX12_letGo 262 = .ok (.iaload, 1) := by decide +kernel
theorem dX12_letGo_263 : decode cX12_letGo 263 = .ok (.aload_n 0, 1) := by decide +kernel
theorem dX12_letGo_264 : decode cX12_letGo 264 = .ok (.getfield 42, 3) := by decide +kernel
theorem dX12_letGo_267 : decode cX12_letGo 267 = .ok (.iload 4, 2) := by decide +kernel
theorem dX12_letGo_269 : decode cX12_letGo 269 = .ok (.iaload, 1) := by decide +kernel
theorem dX12_letGo_270 : decode cX12_letGo 270 = .ok (.ifCond .ne 7, 3) := by decide +kernel
theorem dX12_letGo_273 : decode cX12_letGo 273 = .ok (.iload_n 1, 1) := by decide +kernel
theorem dX12_letGo_274 : decode cX12_letGo 274 = .ok (.ifCond .gt 18, 3) := by decide +kernel
theorem dX12_letGo_277 : decode cX12_letGo 277 = .ok (.aload_n 0, 1) := by decide +kernel
theorem dX12_letGo_278 : decode cX12_letGo 278 = .ok (.getfield 42, 3) := by decide +kernel
theorem dX12_letGo_281 : decode cX12_letGo 281 = .ok (.iload 4, 2) := by decide +kernel
theorem dX12_letGo_283 : decode cX12_letGo 283 = .ok (.iaload, 1) := by decide +kernel
theorem dX12_letGo_284 : decode cX12_letGo 284 = .ok (.iconst 1, 1) := by decide +kernel
theorem dX12_letGo_285 : decode cX12_letGo 285 = .ok (.if_icmp .ne 11, 3) := by decide +kernel
theorem dX12_letGo_288 : decode cX12_letGo 288 = .ok (.iload_n 2, 1) := by decide +kernel
theorem dX12_letGo_289 : decode cX12_letGo 289 = .ok (.ifCond .le 7, 3) := by decide +kernel
theorem dX12_letGo_292 : decode cX12_letGo 292 = .ok (.iconst 1, 1) := by decide +kernel
theorem dX12_letGo_293 : decode cX12_letGo 293 = .ok (.goto 4, 3) := by decide +kernel
theorem dX12_letGo_296 : decode cX12_letGo 296 = .ok (.iconst 0, 1) := by decide +kernel
theorem dX12_letGo_297 : decode cX12_letGo 297 = .ok (.iadd, 1) := by decide +kernel
theorem dX12_letGo_298 : decode cX12_letGo 298 = .ok (.iastore, 1) := by decide +kernel
theorem dX12_letGo_299 : decode cX12_letGo 299 = .ok (.iinc 4 1, 3) := by decide +kernel
theorem dX12_letGo_302 : decode cX12_letGo 302 = .ok (.goto (-56), 3) := by decide +kernel
theorem dX12_letGo_305 : decode cX12_letGo 305 = .ok (.return_, 1) := by decide +kernel
theorem dX12_winner_0 : decode cX12_winner 0 = .ok (.aload_n 0, 1) := by decide +kernel
theorem dX12_winner_1 : decode cX12_winner 1 = .ok (.getfield 88, 3) := by decide +kernel
theorem dX12_winner_4 : decode cX12_winner 4 = .ok (.aload_n 0, 1) := by decide +kernel
theorem dX12_winner_5 : decode cX12_winner 5 = .ok (.getfield 91, 3) := by decide +kernel
theorem dX12_winner_8 : decode cX12_winner 8 = .ok (.if_icmp .le 7, 3) := by decide +kernel
theorem dX12_winner_11 : decode cX12_winner 11 = .ok (.iconst 0, 1) := by decide +kernel
theorem dX12_winner_12 : decode cX12_winner 12 = .ok (.goto 19, 3) := by decide +kernel
theorem dX12_winner_15 : decode cX12_winner 15 = .ok (.aload_n 0, 1) := by decide +kernel
theorem dX12_winner_16 : decode cX12_winner 16 = .ok (.getfield 91, 3) := by decide +kernel
theorem dX12_winner_19 : decode cX12_winner 19 = .ok (.aload_n 0, 1) := by decide +kernel
theorem dX12_winner_20 : decode cX12_winner 20 = .ok (.getfield 88, 3) := by decide +kernel
theorem dX12_winner_23 : decode cX12_winner 23 = .ok (.if_icmp .le 7, 3) := by decide +kernel
theorem dX12_winner_26 : decode cX12_winner 26 = .ok (.iconst 1, 1) := by decide +kernel
theorem dX12_winner_27 : decode cX12_winner 27 = .ok (.goto 4, 3) := by decide +kernel
theorem dX12_winner_30 : decode cX12_winner 30 = .ok (.iconst 2, 1) := by decide +kernel
theorem dX12_winner_31 : decode cX12_winner 31 = .ok (.ireturn, 1) := by decide +kernel
theorem dX12_fresh_0 : decode cX12_fresh 0 = .ok (.aload_n 0, 1) := by decide +kernel
theorem dX12_fresh_1 : decode cX12_fresh 1 = .ok (.invokevirtual 97, 3) := by decide +kernel
theorem dX12_fresh_4 : decode cX12_fresh 4 = .ok (.aload_n 0, 1) := by decide +kernel
theorem dX12_fresh_5 : decode cX12_fresh 5 = .ok (.invokevirtual 100, 3) := by decide +kernel
theorem dX12_fresh_8 : decode cX12_fresh 8 = .ok (.aload_n 0, 1) := by decide +kernel
theorem dX12_fresh_9 : decode cX12_fresh 9 = .ok (.iload_n 1, 1) := by decide +kernel
theorem dX12_fresh_10 : decode cX12_fresh 10 = .ok (.iload_n 2, 1) := by decide +kernel
theorem dX12_fresh_11 : decode cX12_fresh 11 = .ok (.iload_n 3, 1) := by decide +kernel
theorem dX12_fresh_12 : decode cX12_fresh 12 = .ok (.invokevirtual 103, 3) := by decide +kernel
theorem dX12_fresh_15 : decode cX12_fresh 15 = .ok (.return_, 1) := by decide +kernel
theorem dX12_areLivers_0 : decode cX12_areLivers 0 = .ok (.iload_n 0, 1) := by decide +kernel
theorem dX12_areLivers_1 : decode cX12_areLivers 1 = .ok (.iconst 0, 1) := by decide +kernel
theorem dX12_areLivers_2 : decode cX12_areLivers 2 = .ok (.bipush 20, 2) := by decide +kernel
theorem dX12_areLivers_4 : decode cX12_areLivers 4 = .ok (.invokestatic 66, 3) := by decide +kernel
theorem dX12_areLivers_7 : decode cX12_areLivers 7 = .ok (.ifCond .eq 17, 3) := by decide +kernel
theorem dX12_areLivers_10 : decode cX12_areLivers 10 = .ok (.iload_n 1, 1) := by decide +kernel
theorem dX12_areLivers_11 : decode cX12_areLivers 11 = .ok (.iconst 0, 1) := by decide +kernel
theorem dX12_areLivers_12 : decode cX12_areLivers 12 = .ok (.bipush 20, 2) := by decide +kernel
theorem dX12_areLivers_14 : decode cX12_areLivers 14 = .ok (.invokestatic 66, 3) := by decide +kernel
theorem dX12_areLivers_17 : decode cX12_areLivers 17 = .ok (.ifCond .eq 7, 3) := by decide +kernel
theorem dX12_areLivers_20 : decode cX12_areLivers 20 = .ok (.iconst 1, 1) := by decide +kernel
theorem dX12_areLivers_21 : decode cX12_areLivers 21 = .ok (.goto 4, 3) := by decide +kernel
theorem dX12_areLivers_24 : decode cX12_areLivers 24 = .ok (.iconst 0, 1) := by decide +kernel
theorem dX12_areLivers_25 : decode cX12_areLivers 25 = .ok (.ireturn, 1) := by decide +kernel
theorem dX12_goes_0 : decode cX12_goes 0 = .ok (.aload_n 0, 1) := by decide +kernel
theorem dX12_goes_1 : decode cX12_goes 1 = .ok (.iload_n 3, 1) := by decide +kernel
theorem dX12_goes_2 : decode cX12_goes 2 = .ok (.invokevirtual 80, 3) := by decide +kernel
theorem dX12_goes_5 : decode cX12_goes 5 = .ok (.ifCond .ne 5, 3) := by decide +kernel
theorem dX12_goes_8 : decode cX12_goes 8 = .ok (.iconst (-1), 1) := by decide +kernel
theorem dX12_goes_9 : decode cX12_goes 9 = .ok (.ireturn, 1) := by decide +kernel
theorem dX12_goes_10 : decode cX12_goes 10 = .ok (.iload_n 1, 1) := by decide +kernel
theorem dX12_goes_11 : decode cX12_goes 11 = .ok (.iload_n 2, 1) := by decide +kernel
theorem dX12_goes_12 : decode cX12_goes 12 = .ok (.invokestatic 107, 3) := by decide +kernel
theorem dX12_goes_15 : decode cX12_goes 15 = .ok (.ifCond .ne 6, 3) := by decide +kernel
theorem dX12_goes_18 : decode cX12_goes 18 = .ok (.bipush (-2), 2) := by decide +kernel
theorem dX12_goes_20 : decode cX12_goes 20 = .ok (.ireturn, 1) := by decide +kernel
theorem dX12_goes_21 : decode cX12_goes 21 = .ok (.aload_n 0, 1) := by decide +kernel
theorem dX12_goes_22 : decode cX12_goes 22 = .ok (.iload_n 1, 1) := by decide +kernel
theorem dX12_goes_23 : decode cX12_goes 23 = .ok (.iload_n 2, 1) := by decide +kernel
theorem dX12_goes_24 : decode cX12_goes 24 = .ok (.bipush (-6), 2) := by decide +kernel
theorem dX12_goes_26 : decode cX12_goes 26 = .ok (.invokevirtual 110, 3) := by decide +kernel
theorem dX12_goes_29 : decode cX12_goes 29 = .ok (.aload_n 0, 1) := by decide +kernel
theorem dX12_goes_30 : decode cX12_goes 30 = .ok (.getfield 42, 3) := by decide +kernel
theorem dX12_goes_33 : decode cX12_goes 33 = .ok (.iload_n 3, 1) := by decide +kernel
theorem dX12_goes_34 : decode cX12_goes 34 = .ok (.iaload, 1) := by decide +kernel
theorem dX12_goes_35 : decode cX12_goes 35 = .ok (.ireturn, 1) := by decide +kernel
theorem dX12_vote_0 : decode cX12_vote 0 = .ok (.iload_n 1, 1) := by decide +kernel
theorem dX12_vote_1 : decode cX12_vote 1 = .ok (.iload_n 2, 1) := by decide +kernel
theorem dX12_vote_2 : decode cX12_vote 2 = .ok (.invokestatic 107, 3) := by decide +kernel
theorem dX12_vote_5 : decode cX12_vote 5 = .ok (.ifCond .eq 12, 3) := by decide +kernel
theorem dX12_vote_8 : decode cX12_vote 8 = .ok (.iload_n 3, 1) := by decide +kernel
theorem dX12_vote_9 : decode cX12_vote 9 = .ok (.iconst 0, 1) := by decide +kernel
theorem dX12_vote_10 : decode cX12_vote 10 = .ok (.iconst 2, 1) := by decide +kernel
theorem dX12_vote_11 : decode cX12_vote 11 = .ok (.invokestatic 66, 3) := by decide +kernel
theorem dX12_vote_14 : decode cX12_vote 14 = .ok (.ifCond .ne 6, 3) := by decide +kernel
theorem dX12_vote_17 : decode cX12_vote 17 = .ok (.bipush (-2), 2) := by decide +kernel
theorem dX12_vote_19 : decode cX12_vote 19 = .ok (.ireturn, 1) := by decide +kernel
theorem dX12_vote_20 : decode cX12_vote 20 = .ok (.aload_n 0, 1) := by decide +kernel
theorem dX12_vote_21 : decode cX12_vote 21 = .ok (.iload_n 1, 1) := by decide +kernel
theorem dX12_vote_22 : decode cX12_vote 22 = .ok (.iload_n 2, 1) := by decide +kernel
theorem dX12_vote_23 : decode cX12_vote 23 = .ok (.bipush (-6), 2) := by decide +kernel
theorem dX12_vote_25 : decode cX12_vote 25 = .ok (.invokevirtual 110, 3) := by decide +kernel
theorem dX12_vote_28 : decode cX12_vote 28 = .ok (.iload_n 3, 1) := by decide +kernel
theorem dX12_vote_29 : decode cX12_vote 29 = .ok (.ifCond .ne 10, 3) := by decide +kernel
theorem dX12_vote_32 : decode cX12_vote 32 = .ok (.aload_n 0, 1) := by decide +kernel
theorem dX12_vote_33 : decode cX12_vote 33 = .ok (.getfield 88, 3) := by decide +kernel
theorem dX12_vote_36 : decode cX12_vote 36 = .ok (.goto 19, 3) := by decide +kernel
theorem dX12_vote_39 : decode cX12_vote 39 = .ok (.iload_n 3, 1) := by decide +kernel
theorem dX12_vote_40 : decode cX12_vote 40 = .ok (.iconst 1, 1) := by decide +kernel
theorem dX12_vote_41 : decode cX12_vote 41 = .ok (.if_icmp .ne 10, 3) := by decide +kernel
theorem dX12_vote_44 : decode cX12_vote 44 = .ok (.aload_n 0, 1) := by decide +kernel
theorem dX12_vote_45 : decode cX12_vote 45 = .ok (.getfield 91, 3) := by decide +kernel
theorem dX12_vote_48 : decode cX12_vote 48 = .ok (.goto 7, 3) := by decide +kernel
theorem dX12_vote_51 : decode cX12_vote 51 = .ok (.aload_n 0, 1) := by decide +kernel
theorem dX12_vote_52 : decode cX12_vote 52 = .ok (.invokevirtual 113, 3) := by decide +kernel
theorem dX12_vote_55 : decode cX12_vote 55 = .ok (.ireturn, 1) := by decide +kernel
theorem dX12_stolen_0 : decode cX12_stolen 0 = .ok (.iload_n 1, 1) := by decide +kernel
theorem dX12_stolen_1 : decode cX12_stolen 1 = .ok (.iload_n 2, 1) := by decide +kernel
theorem dX12_stolen_2 : decode cX12_stolen 2 = .ok (.invokestatic 107, 3) := by decide +kernel
theorem dX12_stolen_5 : decode cX12_stolen 5 = .ok (.ifCond .ne 6, 3) := by decide +kernel
theorem dX12_stolen_8 : decode cX12_stolen 8 = .ok (.bipush (-2), 2) := by decide +kernel
theorem dX12_stolen_10 : decode cX12_stolen 10 = .ok (.ireturn, 1) := by decide +kernel
theorem dX12_stolen_11 : decode cX12_stolen 11 = .ok (.aload_n 0, 1) := by decide +kernel
theorem dX12_stolen_12 : decode cX12_stolen 12 = .ok (.iload_n 1, 1) := by decide +kernel
theorem dX12_stolen_13 : decode cX12_stolen 13 = .ok (.iload_n 2, 1) := by decide +kernel
theorem dX12_stolen_14 : decode cX12_stolen 14 = .ok (.bipush (-6), 2) := by decide +kernel
theorem dX12_stolen_16 : decode cX12_stolen 16 = .ok (.invokevirtual 110, 3) := by decide +kernel
theorem dX12_stolen_19 : decode cX12_stolen 19 = .ok (.aload_n 0, 1) := by decide +kernel
theorem dX12_stolen_20 : decode cX12_stolen 20 = .ok (.invokevirtual 113, 3) := by decide +kernel
theorem dX12_stolen_23 : decode cX12_stolen 23 = .ok (.istore_n 3, 1) := by decide +kernel
theorem dX12_stolen_24 : decode cX12_stolen 24 = .ok (.iconst 0, 1) := by decide +kernel
theorem dX12_stolen_25 : decode cX12_stolen 25 = .ok (.istore 4, 2) := by decide +kernel
theorem dX12_stolen_27 : decode cX12_stolen 27 = .ok (.iconst 0, 1) := by decide +kernel
theorem dX12_stolen_28 : decode cX12_stolen 28 = .ok (.istore 5, 2) := by decide +kernel
theorem dX12_stolen_30 : decode cX12_stolen 30 = .ok (.iload 5, 2) := by decide +kernel
theorem dX12_stolen_32 : decode cX12_stolen 32 = .ok (.aload_n 0, 1) := by decide +kernel
theorem dX12_stolen_33 : decode cX12_stolen 33 = .ok (.getfield 63, 3) := by decide +kernel
theorem dX12_stolen_36 : decode cX12_stolen 36 = .ok (.if_icmp .ge 38, 3) := by decide +kernel
theorem dX12_stolen_39 : decode cX12_stolen 39 = .ok (.aload_n 0, 1) := by decide +kernel
theorem dX12_stolen_40 : decode cX12_stolen 40 = .ok (.iload_n 1, 1) := by decide +kernel
theorem dX12_stolen_41 : decode cX12_stolen 41 = .ok (.iload_n 2, 1) := by decide +kernel
theorem dX12_stolen_42 : decode cX12_stolen 42 = .ok (.iload 5, 2) := by decide +kernel
theorem dX12_stolen_44 : decode cX12_stolen 44 = .ok (.invokevirtual 110, 3) := by decide +kernel
theorem dX12_stolen_47 : decode cX12_stolen 47 = .ok (.iload 4, 2) := by decide +kernel
theorem dX12_stolen_49 : decode cX12_stolen 49 = .ok (.aload_n 0, 1) := by decide +kernel
theorem dX12_stolen_50 : decode cX12_stolen 50 = .ok (.invokevirtual 113, 3) := by decide +kernel
theorem dX12_stolen_53 : decode cX12_stolen 53 = .ok (.iload_n 3, 1) := by decide +kernel
theorem dX12_stolen_54 : decode cX12_stolen 54 = .ok (.if_icmp .eq 10, 3) := by decide +kernel
theorem dX12_stolen_57 : decode cX12_stolen 57 = .ok (.iconst 1, 1) := by decide +kernel
theorem dX12_stolen_58 : decode cX12_stolen 58 = .ok (.iload 5, 2) := by decide +kernel
theorem dX12_stolen_60 : decode cX12_stolen 60 = .ok (.ishl, 1) := by decide +kernel
theorem dX12_stolen_61 : decode cX12_stolen 61 = .ok (.goto 4, 3) := by decide +kernel
theorem dX12_stolen_64 : decode cX12_stolen 64 = .ok (.iconst 0, 1) := by decide +kernel
theorem dX12_stolen_65 : decode cX12_stolen 65 = .ok (.ior, 1) := by decide +kernel
theorem dX12_stolen_66 : decode cX12_stolen 66 = .ok (.istore 4, 2) := by decide +kernel
theorem dX12_stolen_68 : decode cX12_stolen 68 = .ok (.iinc 5 1, 3) := by decide +kernel
theorem dX12_stolen_71 : decode cX12_stolen 71 = .ok (.goto (-41), 3) := by decide +kernel
theorem dX12_stolen_74 : decode cX12_stolen 74 = .ok (.iload 4, 2) := by decide +kernel
theorem dX12_stolen_76 : decode cX12_stolen 76 = .ok (.ireturn, 1) := by decide +kernel
theorem dX12_won_0 : decode cX12_won 0 = .ok (.iload_n 1, 1) := by decide +kernel
theorem dX12_won_1 : decode cX12_won 1 = .ok (.iconst 0, 1) := by decide +kernel
theorem dX12_won_2 : decode cX12_won 2 = .ok (.bipush 20, 2) := by decide +kernel
theorem dX12_won_4 : decode cX12_won 4 = .ok (.invokestatic 66, 3) := by decide +kernel
theorem dX12_won_7 : decode cX12_won 7 = .ok (.ifCond .ne 6, 3) := by decide +kernel
theorem dX12_won_10 : decode cX12_won 10 = .ok (.bipush (-2), 2) := by decide +kernel
theorem dX12_won_12 : decode cX12_won 12 = .ok (.ireturn, 1) := by decide +kernel
theorem dX12_won_13 : decode cX12_won 13 = .ok (.iconst 0, 1) := by decide +kernel
theorem dX12_won_14 : decode cX12_won 14 = .ok (.istore_n 2, 1) := by decide +kernel
theorem dX12_won_15 : decode cX12_won 15 = .ok (.iload_n 2, 1) := by decide +kernel
theorem dX12_won_16 : decode cX12_won 16 = .ok (.bipush 20, 2) := by decide +kernel
theorem dX12_won_18 : decode cX12_won 18 = .ok (.if_icmp .gt 26, 3) := by decide +kernel
theorem dX12_won_21 : decode cX12_won 21 = .ok (.aload_n 0, 1) := by decide +kernel
theorem dX12_won_22 : decode cX12_won 22 = .ok (.iload_n 2, 1) := by decide +kernel
theorem dX12_won_23 : decode cX12_won 23 = .ok (.iload_n 1, 1) := by decide +kernel
theorem dX12_won_24 : decode cX12_won 24 = .ok (.bipush (-6), 2) := by decide +kernel
theorem dX12_won_26 : decode cX12_won 26 = .ok (.invokevirtual 110, 3) := by decide +kernel
theorem dX12_won_29 : decode cX12_won 29 = .ok (.aload_n 0, 1) := by decide +kernel
theorem dX12_won_30 : decode cX12_won 30 = .ok (.invokevirtual 113, 3) := by decide +kernel
theorem dX12_won_33 : decode cX12_won 33 = .ok (.ifCond .ne 5, 3) := by decide +kernel
theorem dX12_won_36 : decode cX12_won 36 = .ok (.iload_n 2, 1) := by decide +kernel
theorem dX12_won_37 : decode cX12_won 37 = .ok (.ireturn, 1) := by decide +kernel
theorem dX12_won_38 : decode cX12_won 38 = .ok (.iinc 2 1, 3) := by decide +kernel
theorem dX12_won_41 : decode cX12_won 41 = .ok (.goto (-26), 3) := by decide +kernel
theorem dX12_won_44 : decode cX12_won 44 = .ok (.bipush (-6), 2) := by decide +kernel
theorem dX12_won_46 : decode cX12_won 46 = .ok (.ireturn, 1) := by decide +kernel
theorem dX12_worthTo_0 : decode cX12_worthTo 0 = .ok (.iload_n 1, 1) := by decide +kernel
theorem dX12_worthTo_1 : decode cX12_worthTo 1 = .ok (.iload_n 0, 1) := by decide +kernel
theorem dX12_worthTo_2 : decode cX12_worthTo 2 = .ok (.if_icmp .ne 8, 3) := by decide +kernel
theorem dX12_worthTo_5 : decode cX12_worthTo 5 = .ok (.bipush 20, 2) := by decide +kernel
theorem dX12_worthTo_7 : decode cX12_worthTo 7 = .ok (.goto 14, 3) := by decide +kernel
theorem dX12_worthTo_10 : decode cX12_worthTo 10 = .ok (.iload_n 1, 1) := by decide +kernel
theorem dX12_worthTo_11 : decode cX12_worthTo 11 = .ok (.iconst 2, 1) := by decide +kernel
theorem dX12_worthTo_12 : decode cX12_worthTo 12 = .ok (.if_icmp .ne 8, 3) := by decide +kernel
theorem dX12_worthTo_15 : decode cX12_worthTo 15 = .ok (.bipush 10, 2) := by decide +kernel
theorem dX12_worthTo_17 : decode cX12_worthTo 17 = .ok (.goto 4, 3) := by decide +kernel
theorem dX12_worthTo_20 : decode cX12_worthTo 20 = .ok (.iconst 0, 1) := by decide +kernel
theorem dX12_worthTo_21 : decode cX12_worthTo 21 = .ok (.iload_n 2, 1) := by decide +kernel
theorem dX12_worthTo_22 : decode cX12_worthTo 22 = .ok (.isub, 1) := by decide +kernel
theorem dX12_worthTo_23 : decode cX12_worthTo 23 = .ok (.ireturn, 1) := by decide +kernel
theorem dX12_rest_0 : decode cX12_rest 0 = .ok (.iconst 1, 1) := by decide +kernel
theorem dX12_rest_1 : decode cX12_rest 1 = .ok (.istore_n 3, 1) := by decide +kernel
theorem dX12_rest_2 : decode cX12_rest 2 = .ok (.iconst 0, 1) := by decide +kernel
theorem dX12_rest_3 : decode cX12_rest 3 = .ok (.istore 4, 2) := by decide +kernel
theorem dX12_rest_5 : decode cX12_rest 5 = .ok (.iload 4, 2) := by decide +kernel
theorem dX12_rest_7 : decode cX12_rest 7 = .ok (.bipush 10, 2) := by decide +kernel
theorem dX12_rest_9 : decode cX12_rest 9 = .ok (.if_icmp .ge 103, 3) := by decide +kernel
theorem dX12_rest_12 : decode cX12_rest 12 = .ok (.iload_n 3, 1) := by decide +kernel
theorem dX12_rest_13 : decode cX12_rest 13 = .ok (.ifCond .eq 44, 3) := by decide +kernel
theorem dX12_rest_16 : decode cX12_rest 16 = .ok (.iconst 0, 1) := by decide +kernel
theorem dX12_rest_17 : decode cX12_rest 17 = .ok (.aload_n 0, 1) := by decide +kernel
theorem dX12_rest_18 : decode cX12_rest 18 = .ok (.getfield 48, 3) := by decide +kernel
theorem dX12_rest_21 : decode cX12_rest 21 = .ok (.bipush 10, 2) := by decide +kernel
theorem dX12_rest_23 : decode cX12_rest 23 = .ok (.iload 4, 2) := by decide +kernel
theorem dX12_rest_25 : decode cX12_rest 25 = .ok (.imul, 1) := by decide +kernel
theorem dX12_rest_26 : decode cX12_rest 26 = .ok (.iload_n 2, 1) := by decide +kernel
theorem dX12_rest_27 : decode cX12_rest 27 = .ok (.iadd, 1) := by decide +kernel
theorem dX12_rest_28 : decode cX12_rest 28 = .ok (.iaload, 1) := by decide +kernel
theorem dX12_rest_29 : decode cX12_rest 29 = .ok (.iload 4, 2) := by decide +kernel
theorem dX12_rest_31 : decode cX12_rest 31 = .ok (.invokestatic 116, 3) := by decide +kernel
theorem dX12_rest_34 : decode cX12_rest 34 = .ok (.iconst 0, 1) := by decide +kernel
theorem dX12_rest_35 : decode cX12_rest 35 = .ok (.aload_n 0, 1) := by decide +kernel
theorem dX12_rest_36 : decode cX12_rest 36 = .ok (.getfield 48, 3) := by decide +kernel
theorem dX12_rest_39 : decode cX12_rest 39 = .ok (.bipush 10, 2) := by decide +kernel
theorem dX12_rest_41 : decode cX12_rest 41 = .ok (.iload_n 1, 1) := by decide +kernel
theorem dX12_rest_42 : decode cX12_rest 42 = .ok (.imul, 1) := by decide +kernel
theorem dX12_rest_43 : decode cX12_rest 43 = .ok (.iload_n 2, 1) := by decide +kernel
theorem dX12_rest_44 : decode cX12_rest 44 = .ok (.iadd, 1) := by decide +kernel
theorem dX12_rest_45 : decode cX12_rest 45 = .ok (.iaload, 1) := by decide +kernel
theorem dX12_rest_46 : decode cX12_rest 46 = .ok (.iload_n 1, 1) := by decide +kernel
theorem dX12_rest_47 : decode cX12_rest 47 = .ok (.invokestatic 116, 3) := by decide +kernel
theorem dX12_rest_50 : decode cX12_rest 50 = .ok (.if_icmp .gt 7, 3) := by decide +kernel
theorem dX12_rest_53 : decode cX12_rest 53 = .ok (.iconst 1, 1) := by decide +kernel
theorem dX12_rest_54 : decode cX12_rest 54 = .ok (.goto 4, 3) := by decide +kernel
theorem dX12_rest_57 : decode cX12_rest 57 = .ok (.iconst 0, 1) := by decide +kernel
theorem dX12_rest_58 : decode cX12_rest 58 = .ok (.istore_n 3, 1) := by decide +kernel
theorem dX12_rest_59 : decode cX12_rest 59 = .ok (.iload_n 3, 1) := by decide +kernel
theorem dX12_rest_60 : decode cX12_rest 60 = .ok (.ifCond .eq 44, 3) := by decide +kernel
theorem dX12_rest_63 : decode cX12_rest 63 = .ok (.iconst 1, 1) := by decide +kernel
theorem dX12_rest_64 : decode cX12_rest 64 = .ok (.aload_n 0, 1) := by decide +kernel
theorem dX12_rest_65 : decode cX12_rest 65 = .ok (.getfield 48, 3) := by decide +kernel
theorem dX12_rest_68 : decode cX12_rest 68 = .ok (.bipush 10, 2) := by decide +kernel
theorem dX12_rest_70 : decode cX12_rest 70 = .ok (.iload_n 1, 1) := by decide +kernel
theorem dX12_rest_71 : decode cX12_rest 71 = .ok (.imul, 1) := by decide +kernel
theorem dX12_rest_72 : decode cX12_rest 72 = .ok (.iload 4, 2) := by decide +kernel
theorem dX12_rest_74 : decode cX12_rest 74 = .ok (.iadd, 1) := by decide +kernel
theorem dX12_rest_75 : decode cX12_rest 75 = .ok (.iaload, 1) := by decide +kernel
theorem dX12_rest_76 : decode cX12_rest 76 = .ok (.iload 4, 2) := by decide +kernel
theorem dX12_rest_78 : decode cX12_rest 78 = .ok (.invokestatic 116, 3) := by decide +kernel
theorem dX12_rest_81 : decode cX12_rest 81 = .ok (.iconst 1, 1) := by decide +kernel
theorem dX12_rest_82 : decode cX12_rest 82 = .ok (.aload_n 0, 1) := by decide +kernel
theorem dX12_rest_83 : decode cX12_rest 83 = .ok (.getfield 48, 3) := by decide +kernel
theorem dX12_rest_86 : decode cX12_rest 86 = .ok (.bipush 10, 2) := by decide +kernel
theorem dX12_rest_88 : decode cX12_rest 88 = .ok (.iload_n 1, 1) := by decide +kernel
theorem dX12_rest_89 : decode cX12_rest 89 = .ok (.imul, 1) := by decide +kernel
theorem dX12_rest_90 : decode cX12_rest 90 = .ok (.iload_n 2, 1) := by decide +kernel
theorem dX12_rest_91 : decode cX12_rest 91 = .ok (.iadd, 1) := by decide +kernel
theorem dX12_rest_92 : decode cX12_rest 92 = .ok (.iaload, 1) := by decide +kernel
theorem dX12_rest_93 : decode cX12_rest 93 = .ok (.iload_n 2, 1) := by decide +kernel
theorem dX12_rest_94 : decode cX12_rest 94 = .ok (.invokestatic 116, 3) := by decide +kernel
theorem dX12_rest_97 : decode cX12_rest 97 = .ok (.if_icmp .gt 7, 3) := by decide +kernel
theorem dX12_rest_100 : decode cX12_rest 100 = .ok (.iconst 1, 1) := by decide +kernel
theorem dX12_rest_101 : decode cX12_rest 101 = .ok (.goto 4, 3) := by decide +kernel
theorem dX12_rest_104 : decode cX12_rest 104 = .ok (.iconst 0, 1) := by decide +kernel
theorem dX12_rest_105 : decode cX12_rest 105 = .ok (.istore_n 3, 1) := by decide +kernel
theorem dX12_rest_106 : decode cX12_rest 106 = .ok (.iinc 4 1, 3) := by decide +kernel
theorem dX12_rest_109 : decode cX12_rest 109 = .ok (.goto (-104), 3) := by decide +kernel
theorem dX12_rest_112 : decode cX12_rest 112 = .ok (.iload_n 3, 1) := by decide +kernel
theorem dX12_rest_113 : decode cX12_rest 113 = .ok (.ireturn, 1) := by decide +kernel
theorem dX12_rests_0 : decode cX12_rests 0 = .ok (.iconst 0, 1) := by decide +kernel
theorem dX12_rests_1 : decode cX12_rests 1 = .ok (.istore_n 2, 1) := by decide +kernel
theorem dX12_rests_2 : decode cX12_rests 2 = .ok (.iload_n 2, 1) := by decide +kernel
theorem dX12_rests_3 : decode cX12_rests 3 = .ok (.bipush 100, 2) := by decide +kernel
theorem dX12_rests_5 : decode cX12_rests 5 = .ok (.if_icmp .ge 33, 3) := by decide +kernel
theorem dX12_rests_8 : decode cX12_rests 8 = .ok (.aload_n 0, 1) := by decide +kernel
theorem dX12_rests_9 : decode cX12_rests 9 = .ok (.iload_n 2, 1) := by decide +kernel
theorem dX12_rests_10 : decode cX12_rests 10 = .ok (.bipush 10, 2) := by decide +kernel
theorem dX12_rests_12 : decode cX12_rests 12 = .ok (.idiv, 1) := by decide +kernel
theorem dX12_rests_13 : decode cX12_rests 13 = .ok (.iload_n 2, 1) := by decide +kernel
theorem dX12_rests_14 : decode cX12_rests 14 = .ok (.bipush 10, 2) := by decide +kernel
theorem dX12_rests_16 : decode cX12_rests 16 = .ok (.irem, 1) := by decide +kernel
theorem dX12_rests_17 : decode cX12_rests 17 = .ok (.bipush (-6), 2) := by decide +kernel
theorem dX12_rests_19 : decode cX12_rests 19 = .ok (.invokevirtual 110, 3) := by decide +kernel
theorem dX12_rests_22 : decode cX12_rests 22 = .ok (.aload_n 0, 1) := by decide +kernel
theorem dX12_rests_23 : decode cX12_rests 23 = .ok (.getfield 48, 3) := by decide +kernel
theorem dX12_rests_26 : decode cX12_rests 26 = .ok (.iload_n 2, 1) := by decide +kernel
theorem dX12_rests_27 : decode cX12_rests 27 = .ok (.aload_n 0, 1) := by decide +kernel
theorem dX12_rests_28 : decode cX12_rests 28 = .ok (.invokevirtual 113, 3) := by decide +kernel
theorem dX12_rests_31 : decode cX12_rests 31 = .ok (.iastore, 1) := by decide +kernel
theorem dX12_rests_32 : decode cX12_rests 32 = .ok (.iinc 2 1, 3) := by decide +kernel
theorem dX12_rests_35 : decode cX12_rests 35 = .ok (.goto (-33), 3) := by decide +kernel
theorem dX12_rests_38 : decode cX12_rests 38 = .ok (.iconst 0, 1) := by decide +kernel
theorem dX12_rests_39 : decode cX12_rests 39 = .ok (.istore_n 2, 1) := by decide +kernel
theorem dX12_rests_40 : decode cX12_rests 40 = .ok (.iconst 0, 1) := by decide +kernel
theorem dX12_rests_41 : decode cX12_rests 41 = .ok (.istore_n 3, 1) := by decide +kernel
theorem dX12_rests_42 : decode cX12_rests 42 = .ok (.iload_n 3, 1) := by decide +kernel
theorem dX12_rests_43 : decode cX12_rests 43 = .ok (.bipush 100, 2) := by decide +kernel
theorem dX12_rests_45 : decode cX12_rests 45 = .ok (.if_icmp .ge 34, 3) := by decide +kernel
theorem dX12_rests_48 : decode cX12_rests 48 = .ok (.aload_n 0, 1) := by decide +kernel
theorem dX12_rests_49 : decode cX12_rests 49 = .ok (.iload_n 3, 1) := by decide +kernel
theorem dX12_rests_50 : decode cX12_rests 50 = .ok (.bipush 10, 2) := by decide +kernel
theorem dX12_rests_52 : decode cX12_rests 52 = .ok (.idiv, 1) := by decide +kernel
theorem dX12_rests_53 : decode cX12_rests 53 = .ok (.iload_n 3, 1) := by decide +kernel
theorem dX12_rests_54 : decode cX12_rests 54 = .ok (.bipush 10, 2) := by decide +kernel
theorem dX12_rests_56 : decode cX12_rests 56 = .ok (.irem, 1) := by decide +kernel
theorem dX12_rests_57 : decode cX12_rests 57 = .ok (.invokevirtual 120, 3) := by decide +kernel
theorem dX12_rests_60 : decode cX12_rests 60 = .ok (.ifCond .eq 13, 3) := by decide +kernel
theorem dX12_rests_63 : decode cX12_rests 63 = .ok (.iload_n 2, 1) := by decide +kernel
theorem dX12_rests_64 : decode cX12_rests 64 = .ok (.iload_n 1, 1) := by decide +kernel
theorem dX12_rests_65 : decode cX12_rests 65 = .ok (.if_icmp .ne 5, 3) := by decide +kernel
theorem dX12_rests_68 : decode cX12_rests 68 = .ok (.iload_n 3, 1) := by decide +kernel
theorem dX12_rests_69 : decode cX12_rests 69 = .ok (.ireturn, 1) := by decide +kernel
theorem dX12_rests_70 : decode cX12_rests 70 = .ok (.iinc 2 1, 3) := by decide +kernel
theorem dX12_rests_73 : decode cX12_rests 73 = .ok (.iinc 3 1, 3) := by decide +kernel
theorem dX12_rests_76 : decode cX12_rests 76 = .ok (.goto (-34), 3) := by decide +kernel
theorem dX12_rests_79 : decode cX12_rests 79 = .ok (.iload_n 1, 1) := by decide +kernel
theorem dX12_rests_80 : decode cX12_rests 80 = .ok (.iconst (-1), 1) := by decide +kernel
theorem dX12_rests_81 : decode cX12_rests 81 = .ok (.if_icmp .ne 7, 3) := by decide +kernel
theorem dX12_rests_84 : decode cX12_rests 84 = .ok (.iload_n 2, 1) := by decide +kernel
theorem dX12_rests_85 : decode cX12_rests 85 = .ok (.goto 5, 3) := by decide +kernel
theorem dX12_rests_88 : decode cX12_rests 88 = .ok (.bipush (-6), 2) := by decide +kernel
theorem dX12_rests_90 : decode cX12_rests 90 = .ok (.ireturn, 1) := by decide +kernel
theorem dX12_nextOrder_0 : decode cX12_nextOrder 0 = .ok (.iload_n 1, 1) := by decide +kernel
theorem dX12_nextOrder_1 : decode cX12_nextOrder 1 = .ok (.iconst 2, 1) := by decide +kernel
theorem dX12_nextOrder_2 : decode cX12_nextOrder 2 = .ok (.isub, 1) := by decide +kernel
theorem dX12_nextOrder_3 : decode cX12_nextOrder 3 = .ok (.istore_n 2, 1) := by decide +kernel
theorem dX12_nextOrder_4 : decode cX12_nextOrder 4 = .ok (.iload_n 2, 1) := by decide +kernel
theorem dX12_nextOrder_5 : decode cX12_nextOrder 5 = .ok (.ifCond .lt 26, 3) := by decide +kernel
theorem dX12_nextOrder_8 : decode cX12_nextOrder 8 = .ok (.aload_n 0, 1) := by decide +kernel
theorem dX12_nextOrder_9 : decode cX12_nextOrder 9 = .ok (.getfield 39, 3) := by decide +kernel
theorem dX12_nextOrder_12 : decode cX12_nextOrder 12 = .ok (.iload_n 2, 1) := by decide +kernel
theorem dX12_nextOrder_13 : decode cX12_nextOrder 13 = .ok (.iaload, 1) := by decide +kernel
theorem dX12_nextOrder_14 : decode cX12_nextOrder 14 = .ok (.aload_n 0, 1) := by decide +kernel
theorem dX12_nextOrder_15 : decode cX12_nextOrder 15 = .ok (.getfield 39, 3) := by decide +kernel
theorem dX12_nextOrder_18 : decode cX12_nextOrder 18 = .ok (.iload_n 2, 1) := by decide +kernel
theorem dX12_nextOrder_19 : decode cX12_nextOrder 19 = .ok (.iconst 1, 1) := by decide +kernel
theorem dX12_nextOrder_20 : decode cX12_nextOrder 20 = .ok (.iadd, 1) := by decide +kernel
theorem dX12_nextOrder_21 : decode cX12_nextOrder 21 = .ok (.iaload, 1) := by decide +kernel
theorem dX12_nextOrder_22 : decode cX12_nextOrder 22 = .ok (.if_icmp .le 9, 3) := by decide +kernel
theorem dX12_nextOrder_25 : decode cX12_nextOrder 25 = .ok (.iinc 2 (-1), 3) := by decide +kernel
theorem dX12_nextOrder_28 : decode cX12_nextOrder 28 = .ok (.goto (-24), 3) := by decide +kernel
theorem dX12_nextOrder_31 : decode cX12_nextOrder 31 = .ok (.iload_n 2, 1) := by decide +kernel
theorem dX12_nextOrder_32 : decode cX12_nextOrder 32 = .ok (.ifCond .ge 5, 3) := by decide +kernel
theorem dX12_nextOrder_35 : decode cX12_nextOrder 35 = .ok (.iconst 0, 1) := by decide +kernel
theorem dX12_nextOrder_36 : decode cX12_nextOrder 36 = .ok (.ireturn, 1) := by decide +kernel
theorem dX12_nextOrder_37 : decode cX12_nextOrder 37 = .ok (.iload_n 1, 1) := by decide +kernel
theorem dX12_nextOrder_38 : decode cX12_nextOrder 38 = .ok (.iconst 1, 1) := by decide +kernel
theorem dX12_nextOrder_39 : decode cX12_nextOrder 39 = .ok (.isub, 1) := by decide +kernel
theorem dX12_nextOrder_40 : decode cX12_nextOrder 40 = .ok (.istore_n 3, 1) := by decide +kernel
theorem dX12_nextOrder_41 : decode cX12_nextOrder 41 = .ok (.aload_n 0, 1) := by decide +kernel
theorem dX12_nextOrder_42 : decode cX12_nextOrder 42 = .ok (.getfield 39, 3) := by decide +kernel
theorem dX12_nextOrder_45 : decode cX12_nextOrder 45 = .ok (.iload_n 3, 1) := by decide +kernel
theorem dX12_nextOrder_46 : decode cX12_nextOrder 46 = .ok (.iaload, 1) := by decide +kernel
theorem dX12_nextOrder_47 : decode cX12_nextOrder 47 = .ok (.aload_n 0, 1) := by decide +kernel
theorem dX12_nextOrder_48 : decode cX12_nextOrder 48 = .ok (.getfield 39, 3) := by decide +kernel
theorem dX12_nextOrder_51 : decode cX12_nextOrder 51 = .ok (.iload_n 2, 1) := by decide +kernel
theorem dX12_nextOrder_52 : decode cX12_nextOrder 52 = .ok (.iaload, 1) := by decide +kernel
theorem dX12_nextOrder_53 : decode cX12_nextOrder 53 = .ok (.if_icmp .ge 9, 3) := by decide +kernel
theorem dX12_nextOrder_56 : decode cX12_nextOrder 56 = .ok (.iinc 3 (-1), 3) := by decide +kernel
theorem dX12_nextOrder_59 : decode cX12_nextOrder 59 = .ok (.goto (-18), 3) := by decide +kernel
theorem dX12_nextOrder_62 : decode cX12_nextOrder 62 = .ok (.aload_n 0, 1) := by decide +kernel
theorem dX12_nextOrder_63 : decode cX12_nextOrder 63 = .ok (.iload_n 2, 1) := by decide +kernel
theorem dX12_nextOrder_64 : decode cX12_nextOrder 64 = .ok (.iload_n 3, 1) := by decide +kernel
theorem dX12_nextOrder_65 : decode cX12_nextOrder 65 = .ok (.invokevirtual 123, 3) := by decide +kernel
theorem dX12_nextOrder_68 : decode cX12_nextOrder 68 = .ok (.iload_n 2, 1) := by decide +kernel
theorem dX12_nextOrder_69 : decode cX12_nextOrder 69 = .ok (.iconst 1, 1) := by decide +kernel
theorem dX12_nextOrder_70 : decode cX12_nextOrder 70 = .ok (.iadd, 1) := by decide +kernel
theorem dX12_nextOrder_71 : decode cX12_nextOrder 71 = .ok (.istore 4, 2) := by decide +kernel
theorem dX12_nextOrder_73 : decode cX12_nextOrder 73 = .ok (.iload_n 1, 1) := by decide +kernel
theorem dX12_nextOrder_74 : decode cX12_nextOrder 74 = .ok (.iconst 1, 1) := by decide +kernel
theorem dX12_nextOrder_75 : decode cX12_nextOrder 75 = .ok (.isub, 1) := by decide +kernel
theorem dX12_nextOrder_76 : decode cX12_nextOrder 76 = .ok (.istore 5, 2) := by decide +kernel
theorem dX12_nextOrder_78 : decode cX12_nextOrder 78 = .ok (.iload 4, 2) := by decide +kernel
theorem dX12_nextOrder_80 : decode cX12_nextOrder 80 = .ok (.iload 5, 2) := by decide +kernel
theorem dX12_nextOrder_82 : decode cX12_nextOrder 82 = .ok (.if_icmp .ge 20, 3) := by decide +kernel
theorem dX12_nextOrder_85 : decode cX12_nextOrder 85 = .ok (.aload_n 0, 1) := by decide +kernel
theorem dX12_nextOrder_86 : decode cX12_nextOrder 86 = .ok (.iload 4, 2) := by decide +kernel
theorem dX12_nextOrder_88 : decode cX12_nextOrder 88 = .ok (.iload 5, 2) := by decide +kernel
theorem dX12_nextOrder_90 : decode cX12_nextOrder 90 = .ok (.invokevirtual 123, 3) := by decide +kernel
theorem dX12_nextOrder_93 : decode cX12_nextOrder 93 = .ok (.iinc 4 1, 3) := by decide +kernel
theorem dX12_nextOrder_96 : decode cX12_nextOrder 96 = .ok (.iinc 5 (-1), 3) := by decide +kernel
theorem dX12_nextOrder_99 : decode cX12_nextOrder 99 = .ok (.goto (-21), 3) := by decide +kernel
theorem dX12_nextOrder_102 : decode cX12_nextOrder 102 = .ok (.iconst 1, 1) := by decide +kernel
theorem dX12_nextOrder_103 : decode cX12_nextOrder 103 = .ok (.ireturn, 1) := by decide +kernel
theorem dX12_change_0 : decode cX12_change 0 = .ok (.aload_n 0, 1) := by decide +kernel
theorem dX12_change_1 : decode cX12_change 1 = .ok (.getfield 39, 3) := by decide +kernel
theorem dX12_change_4 : decode cX12_change 4 = .ok (.iload_n 1, 1) := by decide +kernel
theorem dX12_change_5 : decode cX12_change 5 = .ok (.iaload, 1) := by decide +kernel
theorem dX12_change_6 : decode cX12_change 6 = .ok (.istore_n 3, 1) := by decide +kernel
theorem dX12_change_7 : decode cX12_change 7 = .ok (.aload_n 0, 1) := by decide +kernel
theorem dX12_change_8 : decode cX12_change 8 = .ok (.getfield 39, 3) := by decide +kernel
theorem dX12_change_11 : decode cX12_change 11 = .ok (.iload_n 1, 1) := by decide +kernel
theorem dX12_change_12 : decode cX12_change 12 = .ok (.aload_n 0, 1) := by decide +kernel
theorem dX12_change_13 : decode cX12_change 13 = .ok (.getfield 39, 3) := by decide +kernel
theorem dX12_change_16 : decode cX12_change 16 = .ok (.iload_n 2, 1) := by decide +kernel
theorem dX12_change_17 : decode cX12_change 17 = .ok (.iaload, 1) := by decide +kernel
theorem dX12_change_18 : decode cX12_change 18 = .ok (.iastore, 1) := by decide +kernel
theorem dX12_change_19 : decode cX12_change 19 = .ok (.aload_n 0, 1) := by decide +kernel
theorem dX12_change_20 : decode cX12_change 20 = .ok (.getfield 39, 3) := by decide +kernel
theorem dX12_change_23 : decode cX12_change 23 = .ok (.iload_n 2, 1) := by decide +kernel
theorem dX12_change_24 : decode cX12_change 24 = .ok (.iload_n 3, 1) := by decide +kernel
theorem dX12_change_25 : decode cX12_change 25 = .ok (.iastore, 1) := by decide +kernel
theorem dX12_change_26 : decode cX12_change 26 = .ok (.return_, 1) := by decide +kernel
theorem dX12_keepOrder_0 : decode cX12_keepOrder 0 = .ok (.iconst 0, 1) := by decide +kernel
theorem dX12_keepOrder_1 : decode cX12_keepOrder 1 = .ok (.istore_n 1, 1) := by decide +kernel
theorem dX12_keepOrder_2 : decode cX12_keepOrder 2 = .ok (.iload_n 1, 1) := by decide +kernel
theorem dX12_keepOrder_3 : decode cX12_keepOrder 3 = .ok (.bipush 7, 2) := by decide +kernel
theorem dX12_keepOrder_5 : decode cX12_keepOrder 5 = .ok (.if_icmp .ge 21, 3) := by decide +kernel
theorem dX12_keepOrder_8 : decode cX12_keepOrder 8 = .ok (.aload_n 0, 1) := by decide +kernel
theorem dX12_keepOrder_9 : decode cX12_keepOrder 9 = .ok (.getfield 51, 3) := by decide +kernel
theorem dX12_keepOrder_12 : decode cX12_keepOrder 12 = .ok (.iload_n 1, 1) := by decide +kernel
theorem dX12_keepOrder_13 : decode cX12_keepOrder 13 = .ok (.aload_n 0, 1) := by decide +kernel
theorem dX12_keepOrder_14 : decode cX12_keepOrder 14 = .ok (.getfield 39, 3) := by decide +kernel
theorem dX12_keepOrder_17 : decode cX12_keepOrder 17 = .ok (.iload_n 1, 1) := by decide +kernel
theorem dX12_keepOrder_18 : decode cX12_keepOrder 18 = .ok (.iaload, 1) := by decide +kernel
theorem dX12_keepOrder_19 : decode cX12_keepOrder 19 = .ok (.iastore, 1) := by decide +kernel
theorem dX12_keepOrder_20 : decode cX12_keepOrder 20 = .ok (.iinc 1 1, 3) := by decide +kernel
theorem dX12_keepOrder_23 : decode cX12_keepOrder 23 = .ok (.goto (-21), 3) := by decide +kernel
theorem dX12_keepOrder_26 : decode cX12_keepOrder 26 = .ok (.return_, 1) := by decide +kernel
theorem dX12_letOut_0 : decode cX12_letOut 0 = .ok (.iload_n 1, 1) := by decide +kernel
theorem dX12_letOut_1 : decode cX12_letOut 1 = .ok (.iload_n 2, 1) := by decide +kernel
theorem dX12_letOut_2 : decode cX12_letOut 2 = .ok (.invokestatic 107, 3) := by decide +kernel
theorem dX12_letOut_5 : decode cX12_letOut 5 = .ok (.ifCond .ne 6, 3) := by decide +kernel
theorem dX12_letOut_8 : decode cX12_letOut 8 = .ok (.bipush (-2), 2) := by decide +kernel
theorem dX12_letOut_10 : decode cX12_letOut 10 = .ok (.ireturn, 1) := by decide +kernel
theorem dX12_letOut_11 : decode cX12_letOut 11 = .ok (.aload_n 0, 1) := by decide +kernel
theorem dX12_letOut_12 : decode cX12_letOut 12 = .ok (.invokevirtual 97, 3) := by decide +kernel
theorem dX12_letOut_15 : decode cX12_letOut 15 = .ok (.bipush (-6), 2) := by decide +kernel
theorem dX12_letOut_17 : decode cX12_letOut 17 = .ok (.istore 4, 2) := by decide +kernel
theorem dX12_letOut_19 : decode cX12_letOut 19 = .ok (.iconst 1, 1) := by decide +kernel
theorem dX12_letOut_20 : decode cX12_letOut 20 = .ok (.istore 5, 2) := by decide +kernel
theorem dX12_letOut_22 : decode cX12_letOut 22 = .ok (.iload 5, 2) := by decide +kernel
theorem dX12_letOut_24 : decode cX12_letOut 24 = .ok (.ifCond .eq 47, 3) := by decide +kernel
theorem dX12_letOut_27 : decode cX12_letOut 27 = .ok (.aload_n 0, 1) := by decide +kernel
theorem dX12_letOut_28 : decode cX12_letOut 28 = .ok (.invokevirtual 100, 3) := by decide +kernel
theorem dX12_letOut_31 : decode cX12_letOut 31 = .ok (.aload_n 0, 1) := by decide +kernel
theorem dX12_letOut_32 : decode cX12_letOut 32 = .ok (.iload_n 1, 1) := by decide +kernel
theorem dX12_letOut_33 : decode cX12_letOut 33 = .ok (.iload_n 2, 1) := by decide +kernel
theorem dX12_letOut_34 : decode cX12_letOut 34 = .ok (.bipush (-6), 2) := by decide +kernel
theorem dX12_letOut_36 : decode cX12_letOut 36 = .ok (.invokevirtual 103, 3) := by decide +kernel
theorem dX12_letOut_39 : decode cX12_letOut 39 = .ok (.aload_n 0, 1) := by decide +kernel
theorem dX12_letOut_40 : decode cX12_letOut 40 = .ok (.getfield 88, 3) := by decide +kernel
theorem dX12_letOut_43 : decode cX12_letOut 43 = .ok (.iload 4, 2) := by decide +kernel
theorem dX12_letOut_45 : decode cX12_letOut 45 = .ok (.if_icmp .le 13, 3) := by decide +kernel
theorem dX12_letOut_48 : decode cX12_letOut 48 = .ok (.aload_n 0, 1) := by decide +kernel
theorem dX12_letOut_49 : decode cX12_letOut 49 = .ok (.getfield 88, 3) := by decide +kernel
theorem dX12_letOut_52 : decode cX12_letOut 52 = .ok (.istore 4, 2) := by decide +kernel
theorem dX12_letOut_54 : decode cX12_letOut 54 = .ok (.aload_n 0, 1) := by decide +kernel
theorem dX12_letOut_55 : decode cX12_letOut 55 = .ok (.invokevirtual 127, 3) := by decide +kernel
theorem dX12_letOut_58 : decode cX12_letOut 58 = .ok (.aload_n 0, 1) := by decide +kernel
theorem dX12_letOut_59 : decode cX12_letOut 59 = .ok (.aload_n 0, 1) := by decide +kernel
theorem dX12_letOut_60 : decode cX12_letOut 60 = .ok (.getfield 63, 3) := by decide +kernel
theorem dX12_letOut_63 : decode cX12_letOut 63 = .ok (.invokevirtual 130, 3) := by decide +kernel
theorem dX12_letOut_66 : decode cX12_letOut 66 = .ok (.istore 5, 2) := by decide +kernel
theorem dX12_letOut_68 : decode cX12_letOut 68 = .ok (.goto (-46), 3) := by decide +kernel
theorem dX12_letOut_71 : decode cX12_letOut 71 = .ok (.iload_n 3, 1) := by decide +kernel
theorem dX12_letOut_72 : decode cX12_letOut 72 = .ok (.iconst (-1), 1) := by decide +kernel
theorem dX12_letOut_73 : decode cX12_letOut 73 = .ok (.if_icmp .ne 8, 3) := by decide +kernel
theorem dX12_letOut_76 : decode cX12_letOut 76 = .ok (.iload 4, 2) := by decide +kernel
theorem dX12_letOut_78 : decode cX12_letOut 78 = .ok (.goto 22, 3) := by decide +kernel
theorem dX12_letOut_81 : decode cX12_letOut 81 = .ok (.aload_n 0, 1) := by decide +kernel
theorem dX12_letOut_82 : decode cX12_letOut 82 = .ok (.iload_n 3, 1) := by decide +kernel
theorem dX12_letOut_83 : decode cX12_letOut 83 = .ok (.invokevirtual 80, 3) := by decide +kernel
theorem dX12_letOut_86 : decode cX12_letOut 86 = .ok (.ifCond .eq 12, 3) := by decide +kernel
theorem dX12_letOut_89 : decode cX12_letOut 89 = .ok (.aload_n 0, 1) := by decide +kernel
theorem dX12_letOut_90 : decode cX12_letOut 90 = .ok (.getfield 51, 3) := by decide +kernel
theorem dX12_letOut_93 : decode cX12_letOut 93 = .ok (.iload_n 3, 1) := by decide +kernel
theorem dX12_letOut_94 : decode cX12_letOut 94 = .ok (.iaload, 1) := by decide +kernel
theorem dX12_letOut_95 : decode cX12_letOut 95 = .ok (.goto 5, 3) := by decide +kernel
theorem dX12_letOut_98 : decode cX12_letOut 98 = .ok (.bipush (-6), 2) := by decide +kernel
theorem dX12_letOut_100 : decode cX12_letOut 100 = .ok (.ireturn, 1) := by decide +kernel
theorem dX12_allHalves_0 : decode cX12_allHalves 0 = .ok (.iconst 0, 1) := by decide +kernel
theorem dX12_allHalves_1 : decode cX12_allHalves 1 = .ok (.istore_n 1, 1) := by decide +kernel
theorem dX12_allHalves_2 : decode cX12_allHalves 2 = .ok (.iconst 0, 1) := by decide +kernel
theorem dX12_allHalves_3 : decode cX12_allHalves 3 = .ok (.istore_n 2, 1) := by decide +kernel
theorem dX12_allHalves_4 : decode cX12_allHalves 4 = .ok (.iload_n 2, 1) := by decide +kernel
theorem dX12_allHalves_5 : decode cX12_allHalves 5 = .ok (.aload_n 0, 1) := by decide +kernel
theorem dX12_allHalves_6 : decode cX12_allHalves 6 = .ok (.getfield 63, 3) := by decide +kernel
theorem dX12_allHalves_9 : decode cX12_allHalves 9 = .ok (.if_icmp .ge 18, 3) := by decide +kernel
theorem dX12_allHalves_12 : decode cX12_allHalves 12 = .ok (.iload_n 1, 1) := by decide +kernel
theorem dX12_allHalves_13 : decode cX12_allHalves 13 = .ok (.aload_n 0, 1) := by decide +kernel
theorem dX12_allHalves_14 : decode cX12_allHalves 14 = .ok (.getfield 7, 3) := by decide +kernel
theorem dX12_allHalves_17 : decode cX12_allHalves 17 = .ok (.iload_n 2, 1) := by decide +kernel
theorem dX12_allHalves_18 : decode cX12_allHalves 18 = .ok (.iaload, 1) := by decide +kernel
theorem dX12_allHalves_19 : decode cX12_allHalves 19 = .ok (.iadd, 1) := by decide +kernel
theorem dX12_allHalves_20 : decode cX12_allHalves 20 = .ok (.istore_n 1, 1) := by decide +kernel
theorem dX12_allHalves_21 : decode cX12_allHalves 21 = .ok (.iinc 2 1, 3) := by decide +kernel
theorem dX12_allHalves_24 : decode cX12_allHalves 24 = .ok (.goto (-20), 3) := by decide +kernel
theorem dX12_allHalves_27 : decode cX12_allHalves 27 = .ok (.iload_n 1, 1) := by decide +kernel
theorem dX12_allHalves_28 : decode cX12_allHalves 28 = .ok (.ireturn, 1) := by decide +kernel
theorem dX12_sumOf_0 : decode cX12_sumOf 0 = .ok (.iconst 0, 1) := by decide +kernel
theorem dX12_sumOf_1 : decode cX12_sumOf 1 = .ok (.istore_n 2, 1) := by decide +kernel
theorem dX12_sumOf_2 : decode cX12_sumOf 2 = .ok (.iconst 0, 1) := by decide +kernel
theorem dX12_sumOf_3 : decode cX12_sumOf 3 = .ok (.istore_n 3, 1) := by decide +kernel
theorem dX12_sumOf_4 : decode cX12_sumOf 4 = .ok (.iload_n 3, 1) := by decide +kernel
theorem dX12_sumOf_5 : decode cX12_sumOf 5 = .ok (.aload_n 0, 1) := by decide +kernel
theorem dX12_sumOf_6 : decode cX12_sumOf 6 = .ok (.getfield 63, 3) := by decide +kernel
theorem dX12_sumOf_9 : decode cX12_sumOf 9 = .ok (.if_icmp .ge 30, 3) := by decide +kernel
theorem dX12_sumOf_12 : decode cX12_sumOf 12 = .ok (.iload_n 2, 1) := by decide +kernel
theorem dX12_sumOf_13 : decode cX12_sumOf 13 = .ok (.iload_n 1, 1) := by decide +kernel
theorem dX12_sumOf_14 : decode cX12_sumOf 14 = .ok (.iload_n 3, 1) := by decide +kernel
theorem dX12_sumOf_15 : decode cX12_sumOf 15 = .ok (.invokestatic 84, 3) := by decide +kernel
theorem dX12_sumOf_18 : decode cX12_sumOf 18 = .ok (.ifCond .eq 12, 3) := by decide +kernel
theorem dX12_sumOf_21 : decode cX12_sumOf 21 = .ok (.aload_n 0, 1) := by decide +kernel
theorem dX12_sumOf_22 : decode cX12_sumOf 22 = .ok (.getfield 7, 3) := by decide +kernel
theorem dX12_sumOf_25 : decode cX12_sumOf 25 = .ok (.iload_n 3, 1) := by decide +kernel
theorem dX12_sumOf_26 : decode cX12_sumOf 26 = .ok (.iaload, 1) := by decide +kernel
theorem dX12_sumOf_27 : decode cX12_sumOf 27 = .ok (.goto 4, 3) := by decide +kernel
theorem dX12_sumOf_30 : decode cX12_sumOf 30 = .ok (.iconst 0, 1) := by decide +kernel
theorem dX12_sumOf_31 : decode cX12_sumOf 31 = .ok (.iadd, 1) := by decide +kernel
theorem dX12_sumOf_32 : decode cX12_sumOf 32 = .ok (.istore_n 2, 1) := by decide +kernel
theorem dX12_sumOf_33 : decode cX12_sumOf 33 = .ok (.iinc 3 1, 3) := by decide +kernel
theorem dX12_sumOf_36 : decode cX12_sumOf 36 = .ok (.goto (-32), 3) := by decide +kernel
theorem dX12_sumOf_39 : decode cX12_sumOf 39 = .ok (.iload_n 2, 1) := by decide +kernel
theorem dX12_sumOf_40 : decode cX12_sumOf 40 = .ok (.ireturn, 1) := by decide +kernel
theorem dX12_dead_0 : decode cX12_dead 0 = .ok (.iconst 0, 1) := by decide +kernel
theorem dX12_dead_1 : decode cX12_dead 1 = .ok (.istore_n 1, 1) := by decide +kernel
theorem dX12_dead_2 : decode cX12_dead 2 = .ok (.iconst 0, 1) := by decide +kernel
theorem dX12_dead_3 : decode cX12_dead 3 = .ok (.istore_n 2, 1) := by decide +kernel
theorem dX12_dead_4 : decode cX12_dead 4 = .ok (.iload_n 2, 1) := by decide +kernel
theorem dX12_dead_5 : decode cX12_dead 5 = .ok (.aload_n 0, 1) := by decide +kernel
theorem dX12_dead_6 : decode cX12_dead 6 = .ok (.getfield 63, 3) := by decide +kernel
theorem dX12_dead_9 : decode cX12_dead 9 = .ok (.if_icmp .ge 28, 3) := by decide +kernel
theorem dX12_dead_12 : decode cX12_dead 12 = .ok (.iload_n 1, 1) := by decide +kernel
theorem dX12_dead_13 : decode cX12_dead 13 = .ok (.aload_n 0, 1) := by decide +kernel
theorem dX12_dead_14 : decode cX12_dead 14 = .ok (.getfield 7, 3) := by decide +kernel
theorem dX12_dead_17 : decode cX12_dead 17 = .ok (.iload_n 2, 1) := by decide +kernel
theorem dX12_dead_18 : decode cX12_dead 18 = .ok (.iaload, 1) := by decide +kernel
theorem dX12_dead_19 : decode cX12_dead 19 = .ok (.ifCond .ne 9, 3) := by decide +kernel
theorem dX12_dead_22 : decode cX12_dead 22 = .ok (.iconst 1, 1) := by decide +kernel
theorem dX12_dead_23 : decode cX12_dead 23 = .ok (.iload_n 2, 1) := by decide +kernel
theorem dX12_dead_24 : decode cX12_dead 24 = .ok (.ishl, 1) := by decide +kernel
theorem dX12_dead_25 : decode cX12_dead 25 = .ok (.goto 4, 3) := by decide +kernel
theorem dX12_dead_28 : decode cX12_dead 28 = .ok (.iconst 0, 1) := by decide +kernel
theorem dX12_dead_29 : decode cX12_dead 29 = .ok (.ior, 1) := by decide +kernel
theorem dX12_dead_30 : decode cX12_dead 30 = .ok (.istore_n 1, 1) := by decide +kernel
theorem dX12_dead_31 : decode cX12_dead 31 = .ok (.iinc 2 1, 3) := by decide +kernel
theorem dX12_dead_34 : decode cX12_dead 34 = .ok (.goto (-30), 3) := by decide +kernel
theorem dX12_dead_37 : decode cX12_dead 37 = .ok (.iload_n 1, 1) := by decide +kernel
theorem dX12_dead_38 : decode cX12_dead 38 = .ok (.ireturn, 1) := by decide +kernel
theorem dX12_swings_0 : decode cX12_swings 0 = .ok (.aload_n 0, 1) := by decide +kernel
theorem dX12_swings_1 : decode cX12_swings 1 = .ok (.iload_n 1, 1) := by decide +kernel
theorem dX12_swings_2 : decode cX12_swings 2 = .ok (.invokevirtual 80, 3) := by decide +kernel
theorem dX12_swings_5 : decode cX12_swings 5 = .ok (.ifCond .ne 5, 3) := by decide +kernel
theorem dX12_swings_8 : decode cX12_swings 8 = .ok (.iconst (-1), 1) := by decide +kernel
theorem dX12_swings_9 : decode cX12_swings 9 = .ok (.ireturn, 1) := by decide +kernel
theorem dX12_swings_10 : decode cX12_swings 10 = .ok (.iconst 0, 1) := by decide +kernel
theorem dX12_swings_11 : decode cX12_swings 11 = .ok (.istore_n 2, 1) := by decide +kernel
theorem dX12_swings_12 : decode cX12_swings 12 = .ok (.iconst 0, 1) := by decide +kernel
theorem dX12_swings_13 : decode cX12_swings 13 = .ok (.istore_n 3, 1) := by decide +kernel
theorem dX12_swings_14 : decode cX12_swings 14 = .ok (.iload_n 3, 1) := by decide +kernel
theorem dX12_swings_15 : decode cX12_swings 15 = .ok (.iconst 1, 1) := by decide +kernel
theorem dX12_swings_16 : decode cX12_swings 16 = .ok (.aload_n 0, 1) := by decide +kernel
theorem dX12_swings_17 : decode cX12_swings 17 = .ok (.getfield 63, 3) := by decide +kernel
theorem dX12_swings_20 : decode cX12_swings 20 = .ok (.ishl, 1) := by decide +kernel
theorem dX12_swings_21 : decode cX12_swings 21 = .ok (.if_icmp .ge 78, 3) := by decide +kernel
theorem dX12_swings_24 : decode cX12_swings 24 = .ok (.iload_n 3, 1) := by decide +kernel
theorem dX12_swings_25 : decode cX12_swings 25 = .ok (.iload_n 1, 1) := by decide +kernel
theorem dX12_swings_26 : decode cX12_swings 26 = .ok (.invokestatic 84, 3) := by decide +kernel
theorem dX12_swings_29 : decode cX12_swings 29 = .ok (.ifCond .ne 64, 3) := by decide +kernel
theorem dX12_swings_32 : decode cX12_swings 32 = .ok (.iload_n 3, 1) := by decide +kernel
theorem dX12_swings_33 : decode cX12_swings 33 = .ok (.aload_n 0, 1) := by decide +kernel
theorem dX12_swings_34 : decode cX12_swings 34 = .ok (.invokevirtual 133, 3) := by decide +kernel
theorem dX12_swings_37 : decode cX12_swings 37 = .ok (.iand, 1) := by decide +kernel
theorem dX12_swings_38 : decode cX12_swings 38 = .ok (.ifCond .ne 55, 3) := by decide +kernel
theorem dX12_swings_41 : decode cX12_swings 41 = .ok (.iconst 2, 1) := by decide +kernel
theorem dX12_swings_42 : decode cX12_swings 42 = .ok (.aload_n 0, 1) := by decide +kernel
theorem dX12_swings_43 : decode cX12_swings 43 = .ok (.iload_n 3, 1) := by decide +kernel
theorem dX12_swings_44 : decode cX12_swings 44 = .ok (.iconst 1, 1) := by decide +kernel
theorem dX12_swings_45 : decode cX12_swings 45 = .ok (.iload_n 1, 1) := by decide +kernel
theorem dX12_swings_46 : decode cX12_swings 46 = .ok (.ishl, 1) := by decide +kernel
theorem dX12_swings_47 : decode cX12_swings 47 = .ok (.ior, 1) := by decide +kernel
theorem dX12_swings_48 : decode cX12_swings 48 = .ok (.invokevirtual 136, 3) := by decide +kernel
theorem dX12_swings_51 : decode cX12_swings 51 = .ok (.imul, 1) := by decide +kernel
theorem dX12_swings_52 : decode cX12_swings 52 = .ok (.aload_n 0, 1) := by decide +kernel
theorem dX12_swings_53 : decode cX12_swings 53 = .ok (.invokevirtual 140, 3) := by decide +kernel
theorem dX12_swings_56 : decode cX12_swings 56 = .ok (.if_icmp .le 7, 3) := by decide +kernel
theorem dX12_swings_59 : decode cX12_swings 59 = .ok (.iconst 1, 1) := by decide +kernel
theorem dX12_swings_60 : decode cX12_swings 60 = .ok (.goto 4, 3) := by decide +kernel
theorem dX12_swings_63 : decode cX12_swings 63 = .ok (.iconst 0, 1) := by decide +kernel
theorem dX12_swings_64 : decode cX12_swings 64 = .ok (.istore 4, 2) := by decide +kernel
theorem dX12_swings_66 : decode cX12_swings 66 = .ok (.iload_n 2, 1) := by decide +kernel
theorem dX12_swings_67 : decode cX12_swings 67 = .ok (.iload 4, 2) := by decide +kernel
theorem dX12_swings_69 : decode cX12_swings 69 = .ok (.ifCond .eq 21, 3) := by decide +kernel
theorem dX12_swings_72 : decode cX12_swings 72 = .ok (.iconst 2, 1) := by decide +kernel
theorem dX12_swings_73 : decode cX12_swings 73 = .ok (.aload_n 0, 1) := by decide +kernel
theorem dX12_swings_74 : decode cX12_swings 74 = .ok (.iload_n 3, 1) := by decide +kernel
theorem dX12_swings_75 : decode cX12_swings 75 = .ok (.invokevirtual 136, 3) := by decide +kernel
theorem dX12_swings_78 : decode cX12_swings 78 = .ok (.imul, 1) := by decide +kernel
theorem dX12_swings_79 : decode cX12_swings 79 = .ok (.aload_n 0, 1) := by decide +kernel
theorem dX12_swings_80 : decode cX12_swings 80 = .ok (.invokevirtual 140, 3) := by decide +kernel
theorem dX12_swings_83 : decode cX12_swings 83 = .ok (.if_icmp .gt 7, 3) := by decide +kernel
theorem dX12_swings_86 : decode cX12_swings 86 = .ok (.iconst 1, 1) := by decide +kernel
theorem dX12_swings_87 : decode cX12_swings 87 = .ok (.goto 4, 3) := by decide +kernel
theorem dX12_swings_90 : decode cX12_swings 90 = .ok (.iconst 0, 1) := by decide +kernel
theorem dX12_swings_91 : decode cX12_swings 91 = .ok (.iadd, 1) := by decide +kernel
theorem dX12_swings_92 : decode cX12_swings 92 = .ok (.istore_n 2, 1) := by decide +kernel
theorem dX12_swings_93 : decode cX12_swings 93 = .ok (.iinc 3 1, 3) := by decide +kernel
theorem dX12_swings_96 : decode cX12_swings 96 = .ok (.goto (-82), 3) := by decide +kernel
theorem dX12_swings_99 : decode cX12_swings 99 = .ok (.iload_n 2, 1) := by decide +kernel
theorem dX12_swings_100 : decode cX12_swings 100 = .ok (.ireturn, 1) := by decide +kernel
theorem dX12_factorial_0 : decode cX12_factorial 0 = .ok (.iconst 1, 1) := by decide +kernel
theorem dX12_factorial_1 : decode cX12_factorial 1 = .ok (.istore_n 1, 1) := by decide +kernel
theorem dX12_factorial_2 : decode cX12_factorial 2 = .ok (.iconst 2, 1) := by decide +kernel
theorem dX12_factorial_3 : decode cX12_factorial 3 = .ok (.istore_n 2, 1) := by decide +kernel
theorem dX12_factorial_4 : decode cX12_factorial 4 = .ok (.iload_n 2, 1) := by decide +kernel
theorem dX12_factorial_5 : decode cX12_factorial 5 = .ok (.iload_n 0, 1) := by decide +kernel
theorem dX12_factorial_6 : decode cX12_factorial 6 = .ok (.if_icmp .gt 13, 3) := by decide +kernel
theorem dX12_factorial_9 : decode cX12_factorial 9 = .ok (.iload_n 1, 1) := by decide +kernel
theorem dX12_factorial_10 : decode cX12_factorial 10 = .ok (.iload_n 2, 1) := by decide +kernel
theorem dX12_factorial_11 : decode cX12_factorial 11 = .ok (.imul, 1) := by decide +kernel
theorem dX12_factorial_12 : decode cX12_factorial 12 = .ok (.istore_n 1, 1) := by decide +kernel
theorem dX12_factorial_13 : decode cX12_factorial 13 = .ok (.iinc 2 1, 3) := by decide +kernel
theorem dX12_factorial_16 : decode cX12_factorial 16 = .ok (.goto (-12), 3) := by decide +kernel
theorem dX12_factorial_19 : decode cX12_factorial 19 = .ok (.iload_n 1, 1) := by decide +kernel
theorem dX12_factorial_20 : decode cX12_factorial 20 = .ok (.ireturn, 1) := by decide +kernel
theorem dX12_bits_0 : decode cX12_bits 0 = .ok (.iconst 0, 1) := by decide +kernel
theorem dX12_bits_1 : decode cX12_bits 1 = .ok (.istore_n 1, 1) := by decide +kernel
theorem dX12_bits_2 : decode cX12_bits 2 = .ok (.iconst 0, 1) := by decide +kernel
theorem dX12_bits_3 : decode cX12_bits 3 = .ok (.istore_n 2, 1) := by decide +kernel
theorem dX12_bits_4 : decode cX12_bits 4 = .ok (.iload_n 2, 1) := by decide +kernel
theorem dX12_bits_5 : decode cX12_bits 5 = .ok (.bipush 7, 2) := by decide +kernel
theorem dX12_bits_7 : decode cX12_bits 7 = .ok (.if_icmp .ge 17, 3) := by decide +kernel
theorem dX12_bits_10 : decode cX12_bits 10 = .ok (.iload_n 1, 1) := by decide +kernel
theorem dX12_bits_11 : decode cX12_bits 11 = .ok (.iload_n 0, 1) := by decide +kernel
theorem dX12_bits_12 : decode cX12_bits 12 = .ok (.iload_n 2, 1) := by decide +kernel
theorem dX12_bits_13 : decode cX12_bits 13 = .ok (.ishr, 1) := by decide +kernel
theorem dX12_bits_14 : decode cX12_bits 14 = .ok (.iconst 1, 1) := by decide +kernel
theorem dX12_bits_15 : decode cX12_bits 15 = .ok (.iand, 1) := by decide +kernel
theorem dX12_bits_16 : decode cX12_bits 16 = .ok (.iadd, 1) := by decide +kernel
theorem dX12_bits_17 : decode cX12_bits 17 = .ok (.istore_n 1, 1) := by decide +kernel
theorem dX12_bits_18 : decode cX12_bits 18 = .ok (.iinc 2 1, 3) := by decide +kernel
theorem dX12_bits_21 : decode cX12_bits 21 = .ok (.goto (-17), 3) := by decide +kernel
theorem dX12_bits_24 : decode cX12_bits 24 = .ok (.iload_n 1, 1) := by decide +kernel
theorem dX12_bits_25 : decode cX12_bits 25 = .ok (.ireturn, 1) := by decide +kernel
theorem dX12_turn_0 : decode cX12_turn 0 = .ok (.aload_n 0, 1) := by decide +kernel
theorem dX12_turn_1 : decode cX12_turn 1 = .ok (.iload_n 1, 1) := by decide +kernel
theorem dX12_turn_2 : decode cX12_turn 2 = .ok (.invokevirtual 80, 3) := by decide +kernel
theorem dX12_turn_5 : decode cX12_turn 5 = .ok (.ifCond .ne 7, 3) := by decide +kernel
theorem dX12_turn_8 : decode cX12_turn 8 = .ok (.ldc2_w 143, 3) := by decide +kernel
theorem dX12_turn_11 : decode cX12_turn 11 = .ok (.lreturn, 1) := by decide +kernel
theorem dX12_turn_12 : decode cX12_turn 12 = .ok (.iload_n 2, 1) := by decide +kernel
theorem dX12_turn_13 : decode cX12_turn 13 = .ok (.iconst 0, 1) := by decide +kernel
theorem dX12_turn_14 : decode cX12_turn 14 = .ok (.iconst 1, 1) := by decide +kernel
theorem dX12_turn_15 : decode cX12_turn 15 = .ok (.invokestatic 66, 3) := by decide +kernel
theorem dX12_turn_18 : decode cX12_turn 18 = .ok (.ifCond .ne 7, 3) := by decide +kernel
theorem dX12_turn_21 : decode cX12_turn 21 = .ok (.ldc2_w 145, 3) := by decide +kernel
theorem dX12_turn_24 : decode cX12_turn 24 = .ok (.lreturn, 1) := by decide +kernel
theorem dX12_turn_25 : decode cX12_turn 25 = .ok (.iconst 0, 1) := by decide +kernel
theorem dX12_turn_26 : decode cX12_turn 26 = .ok (.istore_n 3, 1) := by decide +kernel
theorem dX12_turn_27 : decode cX12_turn 27 = .ok (.aload_n 0, 1) := by decide +kernel
theorem dX12_turn_28 : decode cX12_turn 28 = .ok (.getfield 63, 3) := by decide +kernel
theorem dX12_turn_31 : decode cX12_turn 31 = .ok (.aload_n 0, 1) := by decide +kernel
theorem dX12_turn_32 : decode cX12_turn 32 = .ok (.invokevirtual 133, 3) := by decide +kernel
theorem dX12_turn_35 : decode cX12_turn 35 = .ok (.invokestatic 147, 3) := by decide +kernel
theorem dX12_turn_38 : decode cX12_turn 38 = .ok (.isub, 1) := by decide +kernel
theorem dX12_turn_39 : decode cX12_turn 39 = .ok (.istore 4, 2) := by decide +kernel
theorem dX12_turn_41 : decode cX12_turn 41 = .ok (.iconst 0, 1) := by decide +kernel
theorem dX12_turn_42 : decode cX12_turn 42 = .ok (.istore 5, 2) := by decide +kernel
theorem dX12_turn_44 : decode cX12_turn 44 = .ok (.iload 5, 2) := by decide +kernel
theorem dX12_turn_46 : decode cX12_turn 46 = .ok (.iconst 1, 1) := by decide +kernel
theorem dX12_turn_47 : decode cX12_turn 47 = .ok (.aload_n 0, 1) := by decide +kernel
theorem dX12_turn_48 : decode cX12_turn 48 = .ok (.getfield 63, 3) := by decide +kernel
theorem dX12_turn_51 : decode cX12_turn 51 = .ok (.ishl, 1) := by decide +kernel
theorem dX12_turn_52 : decode cX12_turn 52 = .ok (.if_icmp .ge 103, 3) := by decide +kernel
theorem dX12_turn_55 : decode cX12_turn 55 = .ok (.iload 5, 2) := by decide +kernel
theorem dX12_turn_57 : decode cX12_turn 57 = .ok (.iload_n 1, 1) := by decide +kernel
theorem dX12_turn_58 : decode cX12_turn 58 = .ok (.invokestatic 84, 3) := by decide +kernel
theorem dX12_turn_61 : decode cX12_turn 61 = .ok (.ifCond .ne 51, 3) := by decide +kernel
theorem dX12_turn_64 : decode cX12_turn 64 = .ok (.iload 5, 2) := by decide +kernel
theorem dX12_turn_66 : decode cX12_turn 66 = .ok (.aload_n 0, 1) := by decide +kernel
theorem dX12_turn_67 : decode cX12_turn 67 = .ok (.invokevirtual 133, 3) := by decide +kernel
theorem dX12_turn_70 : decode cX12_turn 70 = .ok (.iand, 1) := by decide +kernel
theorem dX12_turn_71 : decode cX12_turn 71 = .ok (.ifCond .ne 41, 3) := by decide +kernel
theorem dX12_turn_74 : decode cX12_turn 74 = .ok (.iconst 2, 1) := by decide +kernel
theorem dX12_turn_75 : decode cX12_turn 75 = .ok (.aload_n 0, 1) := by decide +kernel
theorem dX12_turn_76 : decode cX12_turn 76 = .ok (.iload 5, 2) := by decide +kernel
theorem dX12_turn_78 : decode cX12_turn 78 = .ok (.invokevirtual 136, 3) := by decide +kernel
theorem dX12_turn_81 : decode cX12_turn 81 = .ok (.imul, 1) := by decide +kernel
theorem dX12_turn_82 : decode cX12_turn 82 = .ok (.aload_n 0, 1) := by decide +kernel
theorem dX12_turn_83 : decode cX12_turn 83 = .ok (.invokevirtual 140, 3) := by decide +kernel
theorem dX12_turn_86 : decode cX12_turn 86 = .ok (.if_icmp .gt 26, 3) := by decide +kernel
theorem dX12_turn_89 : decode cX12_turn 89 = .ok (.iconst 2, 1) := by decide +kernel
theorem dX12_turn_90 : decode cX12_turn 90 = .ok (.aload_n 0, 1) := by decide +kernel
theorem dX12_turn_91 : decode cX12_turn 91 = .ok (.iload 5, 2) := by decide +kernel
theorem dX12_turn_93 : decode cX12_turn 93 = .ok (.iconst 1, 1) := by decide +kernel
theorem dX12_turn_94 : decode cX12_turn 94 = .ok (.iload_n 1, 1) := by decide +kernel
theorem dX12_turn_95 : decode cX12_turn 95 = .ok (.ishl, 1) := by decide +kernel
theorem dX12_turn_96 : decode cX12_turn 96 = .ok (.ior, 1) := by decide +kernel
theorem dX12_turn_97 : decode cX12_turn 97 = .ok (.invokevirtual 136, 3) := by decide +kernel
theorem dX12_turn_100 : decode cX12_turn 100 = .ok (.imul, 1) := by decide +kernel
theorem dX12_turn_101 : decode cX12_turn 101 = .ok (.aload_n 0, 1) := by decide +kernel
theorem dX12_turn_102 : decode cX12_turn 102 = .ok (.invokevirtual 140, 3) := by decide +kernel
theorem dX12_turn_105 : decode cX12_turn 105 = .ok (.if_icmp .le 7, 3) := by decide +kernel
theorem dX12_turn_108 : decode cX12_turn 108 = .ok (.iconst 1, 1) := by decide +kernel
theorem dX12_turn_109 : decode cX12_turn 109 = .ok (.goto 4, 3) := by decide +kernel
theorem dX12_turn_112 : decode cX12_turn 112 = .ok (.iconst 0, 1) := by decide +kernel
theorem dX12_turn_113 : decode cX12_turn 113 = .ok (.istore 6, 2) := by decide +kernel
theorem dX12_turn_115 : decode cX12_turn 115 = .ok (.iload_n 3, 1) := by decide +kernel
theorem dX12_turn_116 : decode cX12_turn 116 = .ok (.iload 6, 2) := by decide +kernel
theorem dX12_turn_118 : decode cX12_turn 118 = .ok (.ifCond .eq 28, 3) := by decide +kernel
theorem dX12_turn_121 : decode cX12_turn 121 = .ok (.iload 5, 2) := by decide +kernel
theorem dX12_turn_123 : decode cX12_turn 123 = .ok (.invokestatic 147, 3) := by decide +kernel
theorem dX12_turn_126 : decode cX12_turn 126 = .ok (.invokestatic 150, 3) := by decide +kernel
theorem dX12_turn_129 : decode cX12_turn 129 = .ok (.iload 4, 2) := by decide +kernel
theorem dX12_turn_131 : decode cX12_turn 131 = .ok (.iconst 1, 1) := by decide +kernel
theorem dX12_turn_132 : decode cX12_turn 132 = .ok (.isub, 1) := by decide +kernel
theorem dX12_turn_133 : decode cX12_turn 133 = .ok (.iload 5, 2) := by decide +kernel
theorem dX12_turn_135 : decode cX12_turn 135 = .ok (.invokestatic 147, 3) := by decide +kernel
theorem dX12_turn_138 : decode cX12_turn 138 = .ok (.isub, 1) := by decide +kernel
theorem dX12_turn_139 : decode cX12_turn 139 = .ok (.invokestatic 150, 3) := by decide +kernel
theorem dX12_turn_142 : decode cX12_turn 142 = .ok (.imul, 1) := by decide +kernel
theorem dX12_turn_143 : decode cX12_turn 143 = .ok (.goto 4, 3) := by decide +kernel
theorem dX12_turn_146 : decode cX12_turn 146 = .ok (.iconst 0, 1) := by decide +kernel
theorem dX12_turn_147 : decode cX12_turn 147 = .ok (.iadd, 1) := by decide +kernel
theorem dX12_turn_148 : decode cX12_turn 148 = .ok (.istore_n 3, 1) := by decide +kernel
theorem dX12_turn_149 : decode cX12_turn 149 = .ok (.iinc 5 1, 3) := by decide +kernel
theorem dX12_turn_152 : decode cX12_turn 152 = .ok (.goto (-108), 3) := by decide +kernel
theorem dX12_turn_155 : decode cX12_turn 155 = .ok (.iload 4, 2) := by decide +kernel
theorem dX12_turn_157 : decode cX12_turn 157 = .ok (.invokestatic 150, 3) := by decide +kernel
theorem dX12_turn_160 : decode cX12_turn 160 = .ok (.istore 5, 2) := by decide +kernel
theorem dX12_turn_162 : decode cX12_turn 162 = .ok (.iload_n 3, 1) := by decide +kernel
theorem dX12_turn_163 : decode cX12_turn 163 = .ok (.istore 6, 2) := by decide +kernel
theorem dX12_turn_165 : decode cX12_turn 165 = .ok (.iload 5, 2) := by decide +kernel
theorem dX12_turn_167 : decode cX12_turn 167 = .ok (.istore 7, 2) := by decide +kernel
theorem dX12_turn_169 : decode cX12_turn 169 = .ok (.iload 7, 2) := by decide +kernel
theorem dX12_turn_171 : decode cX12_turn 171 = .ok (.ifCond .eq 21, 3) := by decide +kernel
theorem dX12_turn_174 : decode cX12_turn 174 = .ok (.iload 6, 2) := by decide +kernel
theorem dX12_turn_176 : decode cX12_turn 176 = .ok (.iload 7, 2) := by decide +kernel
theorem dX12_turn_178 : decode cX12_turn 178 = .ok (.irem, 1) := by decide +kernel
theorem dX12_turn_179 : decode cX12_turn 179 = .ok (.istore 8, 2) := by decide +kernel
theorem dX12_turn_181 : decode cX12_turn 181 = .ok (.iload 7, 2) := by decide +kernel
theorem dX12_turn_183 : decode cX12_turn 183 = .ok (.istore 6, 2) := by decide +kernel
theorem dX12_turn_185 : decode cX12_turn 185 = .ok (.iload 8, 2) := by decide +kernel
theorem dX12_turn_187 : decode cX12_turn 187 = .ok (.istore 7, 2) := by decide +kernel
theorem dX12_turn_189 : decode cX12_turn 189 = .ok (.goto (-20), 3) := by decide +kernel
theorem dX12_turn_192 : decode cX12_turn 192 = .ok (.iload_n 2, 1) := by decide +kernel
theorem dX12_turn_193 : decode cX12_turn 193 = .ok (.ifCond .ne 11, 3) := by decide +kernel
theorem dX12_turn_196 : decode cX12_turn 196 = .ok (.iload_n 3, 1) := by decide +kernel
theorem dX12_turn_197 : decode cX12_turn 197 = .ok (.iload 6, 2) := by decide +kernel
theorem dX12_turn_199 : decode cX12_turn 199 = .ok (.idiv, 1) := by decide +kernel
theorem dX12_turn_200 : decode cX12_turn 200 = .ok (.i2l, 1) := by decide +kernel
theorem dX12_turn_201 : decode cX12_turn 201 = .ok (.goto 9, 3) := by decide +kernel
theorem dX12_turn_204 : decode cX12_turn 204 = .ok (.iload 5, 2) := by decide +kernel
theorem dX12_turn_206 : decode cX12_turn 206 = .ok (.iload 6, 2) := by decide +kernel
theorem dX12_turn_208 : decode cX12_turn 208 = .ok (.idiv, 1) := by decide +kernel
theorem dX12_turn_209 : decode cX12_turn 209 = .ok (.i2l, 1) := by decide +kernel
theorem dX12_turn_210 : decode cX12_turn 210 = .ok (.lreturn, 1) := by decide +kernel
theorem dX12_counted_0 : decode cX12_counted 0 = .ok (.iload_n 1, 1) := by decide +kernel
theorem dX12_counted_1 : decode cX12_counted 1 = .ok (.iload_n 2, 1) := by decide +kernel
theorem dX12_counted_2 : decode cX12_counted 2 = .ok (.invokestatic 107, 3) := by decide +kernel
theorem dX12_counted_5 : decode cX12_counted 5 = .ok (.ifCond .eq 13, 3) := by decide +kernel
theorem dX12_counted_8 : decode cX12_counted 8 = .ok (.iload_n 3, 1) := by decide +kernel
theorem dX12_counted_9 : decode cX12_counted 9 = .ok (.iconst 0, 1) := by decide +kernel
theorem dX12_counted_10 : decode cX12_counted 10 = .ok (.bipush 63, 2) := by decide +kernel
theorem dX12_counted_12 : decode cX12_counted 12 = .ok (.invokestatic 66, 3) := by decide +kernel
theorem dX12_counted_15 : decode cX12_counted 15 = .ok (.ifCond .ne 6, 3) := by decide +kernel
theorem dX12_counted_18 : decode cX12_counted 18 = .ok (.bipush (-2), 2) := by decide +kernel
theorem dX12_counted_20 : decode cX12_counted 20 = .ok (.ireturn, 1) := by decide +kernel
theorem dX12_counted_21 : decode cX12_counted 21 = .ok (.aload_n 0, 1) := by decide +kernel
theorem dX12_counted_22 : decode cX12_counted 22 = .ok (.getfield 77, 3) := by decide +kernel
theorem dX12_counted_25 : decode cX12_counted 25 = .ok (.bipush 6, 2) := by decide +kernel
theorem dX12_counted_27 : decode cX12_counted 27 = .ok (.if_icmp .ne 6, 3) := by decide +kernel
theorem dX12_counted_30 : decode cX12_counted 30 = .ok (.bipush (-4), 2) := by decide +kernel
theorem dX12_counted_32 : decode cX12_counted 32 = .ok (.ireturn, 1) := by decide +kernel
theorem dX12_counted_33 : decode cX12_counted 33 = .ok (.aload_n 0, 1) := by decide +kernel
theorem dX12_counted_34 : decode cX12_counted 34 = .ok (.getfield 30, 3) := by decide +kernel
theorem dX12_counted_37 : decode cX12_counted 37 = .ok (.iconst 3, 1) := by decide +kernel
theorem dX12_counted_38 : decode cX12_counted 38 = .ok (.aload_n 0, 1) := by decide +kernel
theorem dX12_counted_39 : decode cX12_counted 39 = .ok (.getfield 77, 3) := by decide +kernel
theorem dX12_counted_42 : decode cX12_counted 42 = .ok (.imul, 1) := by decide +kernel
theorem dX12_counted_43 : decode cX12_counted 43 = .ok (.iload_n 1, 1) := by decide +kernel
theorem dX12_counted_44 : decode cX12_counted 44 = .ok (.iastore, 1) := by decide +kernel
theorem dX12_counted_45 : decode cX12_counted 45 = .ok (.aload_n 0, 1) := by decide +kernel
theorem dX12_counted_46 : decode cX12_counted 46 = .ok (.getfield 30, 3) := by decide +kernel
theorem dX12_counted_49 : decode cX12_counted 49 = .ok (.iconst 3, 1) := by decide +kernel
theorem dX12_counted_50 : decode cX12_counted 50 = .ok (.aload_n 0, 1) := by decide +kernel
theorem dX12_counted_51 : decode cX12_counted 51 = .ok (.getfield 77, 3) := by decide +kernel
theorem dX12_counted_54 : decode cX12_counted 54 = .ok (.imul, 1) := by decide +kernel
theorem dX12_counted_55 : decode cX12_counted 55 = .ok (.iconst 1, 1) := by decide +kernel
theorem dX12_counted_56 : decode cX12_counted 56 = .ok (.iadd, 1) := by decide +kernel
theorem dX12_counted_57 : decode cX12_counted 57 = .ok (.iload_n 2, 1) := by decide +kernel
theorem dX12_counted_58 : decode cX12_counted 58 = .ok (.iastore, 1) := by decide +kernel
theorem dX12_counted_59 : decode cX12_counted 59 = .ok (.aload_n 0, 1) := by decide +kernel
theorem dX12_counted_60 : decode cX12_counted 60 = .ok (.getfield 30, 3) := by decide +kernel
theorem dX12_counted_63 : decode cX12_counted 63 = .ok (.iconst 3, 1) := by decide +kernel
theorem dX12_counted_64 : decode cX12_counted 64 = .ok (.aload_n 0, 1) := by decide +kernel
theorem dX12_counted_65 : decode cX12_counted 65 = .ok (.getfield 77, 3) := by decide +kernel
theorem dX12_counted_68 : decode cX12_counted 68 = .ok (.imul, 1) := by decide +kernel
theorem dX12_counted_69 : decode cX12_counted 69 = .ok (.iconst 2, 1) := by decide +kernel
theorem dX12_counted_70 : decode cX12_counted 70 = .ok (.iadd, 1) := by decide +kernel
theorem dX12_counted_71 : decode cX12_counted 71 = .ok (.iload_n 3, 1) := by decide +kernel
theorem dX12_counted_72 : decode cX12_counted 72 = .ok (.iastore, 1) := by decide +kernel
theorem dX12_counted_73 : decode cX12_counted 73 = .ok (.aload_n 0, 1) := by decide +kernel
theorem dX12_counted_74 : decode cX12_counted 74 = .ok (.dup, 1) := by decide +kernel
theorem dX12_counted_75 : decode cX12_counted 75 = .ok (.getfield 77, 3) := by decide +kernel
theorem dX12_counted_78 : decode cX12_counted 78 = .ok (.iconst 1, 1) := by decide +kernel
theorem dX12_counted_79 : decode cX12_counted 79 = .ok (.iadd, 1) := by decide +kernel
theorem dX12_counted_80 : decode cX12_counted 80 = .ok (.putfield 77, 3) := by decide +kernel
theorem dX12_counted_83 : decode cX12_counted 83 = .ok (.aload_n 0, 1) := by decide +kernel
theorem dX12_counted_84 : decode cX12_counted 84 = .ok (.getfield 77, 3) := by decide +kernel
theorem dX12_counted_87 : decode cX12_counted 87 = .ok (.ireturn, 1) := by decide +kernel
theorem dX12_forget_0 : decode cX12_forget 0 = .ok (.aload_n 0, 1) := by decide +kernel
theorem dX12_forget_1 : decode cX12_forget 1 = .ok (.getfield 77, 3) := by decide +kernel
theorem dX12_forget_4 : decode cX12_forget 4 = .ok (.istore_n 1, 1) := by decide +kernel
theorem dX12_forget_5 : decode cX12_forget 5 = .ok (.aload_n 0, 1) := by decide +kernel
theorem dX12_forget_6 : decode cX12_forget 6 = .ok (.iconst 0, 1) := by decide +kernel
theorem dX12_forget_7 : decode cX12_forget 7 = .ok (.putfield 77, 3) := by decide +kernel
theorem dX12_forget_10 : decode cX12_forget 10 = .ok (.iload_n 1, 1) := by decide +kernel
theorem dX12_forget_11 : decode cX12_forget 11 = .ok (.ireturn, 1) := by decide +kernel
theorem dX12_opens_0 : decode cX12_opens 0 = .ok (.iconst 0, 1) := by decide +kernel
theorem dX12_opens_1 : decode cX12_opens 1 = .ok (.istore_n 1, 1) := by decide +kernel
theorem dX12_opens_2 : decode cX12_opens 2 = .ok (.iconst 0, 1) := by decide +kernel
theorem dX12_opens_3 : decode cX12_opens 3 = .ok (.istore_n 2, 1) := by decide +kernel
theorem dX12_opens_4 : decode cX12_opens 4 = .ok (.iload_n 2, 1) := by decide +kernel
theorem dX12_opens_5 : decode cX12_opens 5 = .ok (.aload_n 0, 1) := by decide +kernel
theorem dX12_opens_6 : decode cX12_opens 6 = .ok (.getfield 63, 3) := by decide +kernel
theorem dX12_opens_9 : decode cX12_opens 9 = .ok (.if_icmp .ge 26, 3) := by decide +kernel
theorem dX12_opens_12 : decode cX12_opens 12 = .ok (.iload_n 1, 1) := by decide +kernel
theorem dX12_opens_13 : decode cX12_opens 13 = .ok (.aload_n 0, 1) := by decide +kernel
theorem dX12_opens_14 : decode cX12_opens 14 = .ok (.getfield 16, 3) := by decide +kernel
theorem dX12_opens_17 : decode cX12_opens 17 = .ok (.iload_n 2, 1) := by decide +kernel
theorem dX12_opens_18 : decode cX12_opens 18 = .ok (.baload, 1) := by decide +kernel
theorem dX12_opens_19 : decode cX12_opens 19 = .ok (.ifCond .eq 7, 3) := by decide +kernel
theorem dX12_opens_22 : decode cX12_opens 22 = .ok (.iconst 0, 1) := by decide +kernel
theorem dX12_opens_23 : decode cX12_opens 23 = .ok (.goto 4, 3) := by decide +kernel
theorem dX12_opens_26 : decode cX12_opens 26 = .ok (.iconst 1, 1) := by decide +kernel
theorem dX12_opens_27 : decode cX12_opens 27 = .ok (.iadd, 1) := by decide +kernel
theorem dX12_opens_28 : decode cX12_opens 28 = .ok (.istore_n 1, 1) := by decide +kernel
theorem dX12_opens_29 : decode cX12_opens 29 = .ok (.iinc 2 1, 3) := by decide +kernel
theorem dX12_opens_32 : decode cX12_opens 32 = .ok (.goto (-28), 3) := by decide +kernel
theorem dX12_opens_35 : decode cX12_opens 35 = .ok (.iload_n 1, 1) := by decide +kernel
theorem dX12_opens_36 : decode cX12_opens 36 = .ok (.ireturn, 1) := by decide +kernel
theorem dX12_codes_0 : decode cX12_codes 0 = .ok (.iconst 1, 1) := by decide +kernel
theorem dX12_codes_1 : decode cX12_codes 1 = .ok (.istore_n 1, 1) := by decide +kernel
theorem dX12_codes_2 : decode cX12_codes 2 = .ok (.iconst 0, 1) := by decide +kernel
theorem dX12_codes_3 : decode cX12_codes 3 = .ok (.istore_n 2, 1) := by decide +kernel
theorem dX12_codes_4 : decode cX12_codes 4 = .ok (.iload_n 2, 1) := by decide +kernel
theorem dX12_codes_5 : decode cX12_codes 5 = .ok (.aload_n 0, 1) := by decide +kernel
theorem dX12_codes_6 : decode cX12_codes 6 = .ok (.invokevirtual 153, 3) := by decide +kernel
theorem dX12_codes_9 : decode cX12_codes 9 = .ok (.if_icmp .ge 14, 3) := by decide +kernel
theorem dX12_codes_12 : decode cX12_codes 12 = .ok (.iload_n 1, 1) := by decide +kernel
theorem dX12_codes_13 : decode cX12_codes 13 = .ok (.bipush 19, 2) := by decide +kernel
theorem dX12_codes_15 : decode cX12_codes 15 = .ok (.imul, 1) := by decide +kernel
theorem dX12_codes_16 : decode cX12_codes 16 = .ok (.istore_n 1, 1) := by decide +kernel
theorem dX12_codes_17 : decode cX12_codes 17 = .ok (.iinc 2 1, 3) := by decide +kernel
theorem dX12_codes_20 : decode cX12_codes 20 = .ok (.goto (-16), 3) := by decide +kernel
theorem dX12_codes_23 : decode cX12_codes 23 = .ok (.iload_n 1, 1) := by decide +kernel
theorem dX12_codes_24 : decode cX12_codes 24 = .ok (.ireturn, 1) := by decide +kernel
theorem dX12_write_0 : decode cX12_write 0 = .ok (.iload_n 1, 1) := by decide +kernel
theorem dX12_write_1 : decode cX12_write 1 = .ok (.istore_n 2, 1) := by decide +kernel
theorem dX12_write_2 : decode cX12_write 2 = .ok (.aload_n 0, 1) := by decide +kernel
theorem dX12_write_3 : decode cX12_write 3 = .ok (.getfield 63, 3) := by decide +kernel
theorem dX12_write_6 : decode cX12_write 6 = .ok (.iconst 1, 1) := by decide +kernel
theorem dX12_write_7 : decode cX12_write 7 = .ok (.isub, 1) := by decide +kernel
theorem dX12_write_8 : decode cX12_write 8 = .ok (.istore_n 3, 1) := by decide +kernel
theorem dX12_write_9 : decode cX12_write 9 = .ok (.iload_n 3, 1) := by decide +kernel
theorem dX12_write_10 : decode cX12_write 10 = .ok (.ifCond .lt 36, 3) := by decide +kernel
theorem dX12_write_13 : decode cX12_write 13 = .ok (.aload_n 0, 1) := by decide +kernel
theorem dX12_write_14 : decode cX12_write 14 = .ok (.getfield 16, 3) := by decide +kernel
theorem dX12_write_17 : decode cX12_write 17 = .ok (.iload_n 3, 1) := by decide +kernel
theorem dX12_write_18 : decode cX12_write 18 = .ok (.baload, 1) := by decide +kernel
theorem dX12_write_19 : decode cX12_write 19 = .ok (.ifCond .ne 21, 3) := by decide +kernel
theorem dX12_write_22 : decode cX12_write 22 = .ok (.aload_n 0, 1) := by decide +kernel
theorem dX12_write_23 : decode cX12_write 23 = .ok (.getfield 13, 3) := by decide +kernel
theorem dX12_write_26 : decode cX12_write 26 = .ok (.iload_n 3, 1) := by decide +kernel
theorem dX12_write_27 : decode cX12_write 27 = .ok (.iload_n 2, 1) := by decide +kernel
theorem dX12_write_28 : decode cX12_write 28 = .ok (.bipush 19, 2) := by decide +kernel
theorem dX12_write_30 : decode cX12_write 30 = .ok (.irem, 1) := by decide +kernel
theorem dX12_write_31 : decode cX12_write 31 = .ok (.bipush 9, 2) := by decide +kernel
theorem dX12_write_33 : decode cX12_write 33 = .ok (.isub, 1) := by decide +kernel
theorem dX12_write_34 : decode cX12_write 34 = .ok (.iastore, 1) := by decide +kernel
theorem dX12_write_35 : decode cX12_write 35 = .ok (.iload_n 2, 1) := by decide +kernel
theorem dX12_write_36 : decode cX12_write 36 = .ok (.bipush 19, 2) := by decide +kernel
theorem dX12_write_38 : decode cX12_write 38 = .ok (.idiv, 1) := by decide +kernel
theorem dX12_write_39 : decode cX12_write 39 = .ok (.istore_n 2, 1) := by decide +kernel
theorem dX12_write_40 : decode cX12_write 40 = .ok (.iinc 3 (-1), 3) := by decide +kernel
theorem dX12_write_43 : decode cX12_write 43 = .ok (.goto (-34), 3) := by decide +kernel
theorem dX12_write_46 : decode cX12_write 46 = .ok (.iconst 1, 1) := by decide +kernel
theorem dX12_write_47 : decode cX12_write 47 = .ok (.istore_n 3, 1) := by decide +kernel
theorem dX12_write_48 : decode cX12_write 48 = .ok (.iconst 0, 1) := by decide +kernel
theorem dX12_write_49 : decode cX12_write 49 = .ok (.istore 4, 2) := by decide +kernel
theorem dX12_write_51 : decode cX12_write 51 = .ok (.iload 4, 2) := by decide +kernel
theorem dX12_write_53 : decode cX12_write 53 = .ok (.aload_n 0, 1) := by decide +kernel
theorem dX12_write_54 : decode cX12_write 54 = .ok (.getfield 77, 3) := by decide +kernel
theorem dX12_write_57 : decode cX12_write 57 = .ok (.if_icmp .ge 63, 3) := by decide +kernel
theorem dX12_write_60 : decode cX12_write 60 = .ok (.iload_n 3, 1) := by decide +kernel
theorem dX12_write_61 : decode cX12_write 61 = .ok (.ifCond .eq 59, 3) := by decide +kernel
theorem dX12_write_64 : decode cX12_write 64 = .ok (.aload_n 0, 1) := by decide +kernel
theorem dX12_write_65 : decode cX12_write 65 = .ok (.aload_n 0, 1) := by decide +kernel
theorem dX12_write_66 : decode cX12_write 66 = .ok (.getfield 30, 3) := by decide +kernel
theorem dX12_write_69 : decode cX12_write 69 = .ok (.iconst 3, 1) := by decide +kernel
theorem dX12_write_70 : decode cX12_write 70 = .ok (.iload 4, 2) := by decide +kernel
theorem dX12_write_72 : decode cX12_write 72 = .ok (.imul, 1) := by decide +kernel
theorem dX12_write_73 : decode cX12_write 73 = .ok (.iaload, 1) := by decide +kernel
theorem dX12_write_74 : decode cX12_write 74 = .ok (.aload_n 0, 1) := by decide +kernel
theorem dX12_write_75 : decode cX12_write 75 = .ok (.getfield 30, 3) := by decide +kernel
theorem dX12_write_78 : decode cX12_write 78 = .ok (.iconst 3, 1) := by decide +kernel
theorem dX12_write_79 : decode cX12_write 79 = .ok (.iload 4, 2) := by decide +kernel
theorem dX12_write_81 : decode cX12_write 81 = .ok (.imul, 1) := by decide +kernel
theorem dX12_write_82 : decode cX12_write 82 = .ok (.iconst 1, 1) := by decide +kernel
theorem dX12_write_83 : decode cX12_write 83 = .ok (.iadd, 1) := by decide +kernel
theorem dX12_write_84 : decode cX12_write 84 = .ok (.iaload, 1) := by decide +kernel
theorem dX12_write_85 : decode cX12_write 85 = .ok (.bipush (-6), 2) := by decide +kernel
theorem dX12_write_87 : decode cX12_write 87 = .ok (.invokevirtual 110, 3) := by decide +kernel
theorem dX12_write_90 : decode cX12_write 90 = .ok (.aload_n 0, 1) := by decide +kernel
theorem dX12_write_91 : decode cX12_write 91 = .ok (.getfield 88, 3) := by decide +kernel
theorem dX12_write_94 : decode cX12_write 94 = .ok (.aload_n 0, 1) := by decide +kernel
theorem dX12_write_95 : decode cX12_write 95 = .ok (.getfield 30, 3) := by decide +kernel
theorem dX12_write_98 : decode cX12_write 98 = .ok (.iconst 3, 1) := by decide +kernel
theorem dX12_write_99 : decode cX12_write 99 = .ok (.iload 4, 2) := by decide +kernel
theorem dX12_write_101 : decode cX12_write 101 = .ok (.imul, 1) := by decide +kernel
theorem dX12_write_102 : decode cX12_write 102 = .ok (.iconst 2, 1) := by decide +kernel
theorem dX12_write_103 : decode cX12_write 103 = .ok (.iadd, 1) := by decide +kernel
theorem dX12_write_104 : decode cX12_write 104 = .ok (.iaload, 1) := by decide +kernel
theorem dX12_write_105 : decode cX12_write 105 = .ok (.if_icmp .ne 7, 3) := by decide +kernel
theorem dX12_write_108 : decode cX12_write 108 = .ok (.iconst 1, 1) := by decide +kernel
theorem dX12_write_109 : decode cX12_write 109 = .ok (.goto 4, 3) := by decide +kernel
theorem dX12_write_112 : decode cX12_write 112 = .ok (.iconst 0, 1) := by decide +kernel
theorem dX12_write_113 : decode cX12_write 113 = .ok (.istore_n 3, 1) := by decide +kernel
theorem dX12_write_114 : decode cX12_write 114 = .ok (.iinc 4 1, 3) := by decide +kernel
theorem dX12_write_117 : decode cX12_write 117 = .ok (.goto (-66), 3) := by decide +kernel
theorem dX12_write_120 : decode cX12_write 120 = .ok (.iload_n 3, 1) := by decide +kernel
theorem dX12_write_121 : decode cX12_write 121 = .ok (.ireturn, 1) := by decide +kernel
theorem dX12_unwrite_0 : decode cX12_unwrite 0 = .ok (.iconst 0, 1) := by decide +kernel
theorem dX12_unwrite_1 : decode cX12_unwrite 1 = .ok (.istore_n 1, 1) := by decide +kernel
theorem dX12_unwrite_2 : decode cX12_unwrite 2 = .ok (.iload_n 1, 1) := by decide +kernel
theorem dX12_unwrite_3 : decode cX12_unwrite 3 = .ok (.aload_n 0, 1) := by decide +kernel
theorem dX12_unwrite_4 : decode cX12_unwrite 4 = .ok (.getfield 63, 3) := by decide +kernel
theorem dX12_unwrite_7 : decode cX12_unwrite 7 = .ok (.if_icmp .ge 34, 3) := by decide +kernel
theorem dX12_unwrite_10 : decode cX12_unwrite 10 = .ok (.aload_n 0, 1) := by decide +kernel
theorem dX12_unwrite_11 : decode cX12_unwrite 11 = .ok (.getfield 13, 3) := by decide +kernel
theorem dX12_unwrite_14 : decode cX12_unwrite 14 = .ok (.iload_n 1, 1) := by decide +kernel
theorem dX12_unwrite_15 : decode cX12_unwrite 15 = .ok (.aload_n 0, 1) := by decide +kernel
theorem dX12_unwrite_16 : decode cX12_unwrite 16 = .ok (.getfield 16, 3) := by decide +kernel
theorem dX12_unwrite_19 : decode cX12_unwrite 19 = .ok (.iload_n 1, 1) := by decide +kernel
theorem dX12_unwrite_20 : decode cX12_unwrite 20 = .ok (.baload, 1) := by decide +kernel
theorem dX12_unwrite_21 : decode cX12_unwrite 21 = .ok (.ifCond .eq 12, 3) := by decide +kernel
theorem dX12_unwrite_24 : decode cX12_unwrite 24 = .ok (.aload_n 0, 1) := by decide +kernel
theorem dX12_unwrite_25 : decode cX12_unwrite 25 = .ok (.getfield 13, 3) := by decide +kernel
theorem dX12_unwrite_28 : decode cX12_unwrite 28 = .ok (.iload_n 1, 1) := by decide +kernel
theorem dX12_unwrite_29 : decode cX12_unwrite 29 = .ok (.iaload, 1) := by decide +kernel
theorem dX12_unwrite_30 : decode cX12_unwrite 30 = .ok (.goto 4, 3) := by decide +kernel
theorem dX12_unwrite_33 : decode cX12_unwrite 33 = .ok (.iconst 0, 1) := by decide +kernel
theorem dX12_unwrite_34 : decode cX12_unwrite 34 = .ok (.iastore, 1) := by decide +kernel
theorem dX12_unwrite_35 : decode cX12_unwrite 35 = .ok (.iinc 1 1, 3) := by decide +kernel
theorem dX12_unwrite_38 : decode cX12_unwrite 38 = .ok (.goto (-36), 3) := by decide +kernel
theorem dX12_unwrite_41 : decode cX12_unwrite 41 = .ok (.return_, 1) := by decide +kernel
theorem dX12_fits_0 : decode cX12_fits 0 = .ok (.iconst 0, 1) := by decide +kernel
theorem dX12_fits_1 : decode cX12_fits 1 = .ok (.istore_n 2, 1) := by decide +kernel
theorem dX12_fits_2 : decode cX12_fits 2 = .ok (.bipush (-6), 2) := by decide +kernel
theorem dX12_fits_4 : decode cX12_fits 4 = .ok (.istore_n 3, 1) := by decide +kernel
theorem dX12_fits_5 : decode cX12_fits 5 = .ok (.iconst 0, 1) := by decide +kernel
theorem dX12_fits_6 : decode cX12_fits 6 = .ok (.istore 4, 2) := by decide +kernel
theorem dX12_fits_8 : decode cX12_fits 8 = .ok (.iload 4, 2) := by decide +kernel
theorem dX12_fits_10 : decode cX12_fits 10 = .ok (.aload_n 0, 1) := by decide +kernel
theorem dX12_fits_11 : decode cX12_fits 11 = .ok (.invokevirtual 156, 3) := by decide +kernel
theorem dX12_fits_14 : decode cX12_fits 14 = .ok (.if_icmp .ge 32, 3) := by decide +kernel
theorem dX12_fits_17 : decode cX12_fits 17 = .ok (.aload_n 0, 1) := by decide +kernel
theorem dX12_fits_18 : decode cX12_fits 18 = .ok (.iload 4, 2) := by decide +kernel
theorem dX12_fits_20 : decode cX12_fits 20 = .ok (.invokevirtual 159, 3) := by decide +kernel
theorem dX12_fits_23 : decode cX12_fits 23 = .ok (.ifCond .eq 17, 3) := by decide +kernel
theorem dX12_fits_26 : decode cX12_fits 26 = .ok (.iload_n 3, 1) := by decide +kernel
theorem dX12_fits_27 : decode cX12_fits 27 = .ok (.ifCond .ge 8, 3) := by decide +kernel
theorem dX12_fits_30 : decode cX12_fits 30 = .ok (.iload 4, 2) := by decide +kernel
theorem dX12_fits_32 : decode cX12_fits 32 = .ok (.goto 4, 3) := by decide +kernel
theorem dX12_fits_35 : decode cX12_fits 35 = .ok (.iload_n 3, 1) := by decide +kernel
theorem dX12_fits_36 : decode cX12_fits 36 = .ok (.istore_n 3, 1) := by decide +kernel
theorem dX12_fits_37 : decode cX12_fits 37 = .ok (.iinc 2 1, 3) := by decide +kernel
theorem dX12_fits_40 : decode cX12_fits 40 = .ok (.iinc 4 1, 3) := by decide +kernel
theorem dX12_fits_43 : decode cX12_fits 43 = .ok (.goto (-35), 3) := by decide +kernel
theorem dX12_fits_46 : decode cX12_fits 46 = .ok (.aload_n 0, 1) := by decide +kernel
theorem dX12_fits_47 : decode cX12_fits 47 = .ok (.invokevirtual 162, 3) := by decide +kernel
theorem dX12_fits_50 : decode cX12_fits 50 = .ok (.iload_n 1, 1) := by decide +kernel
theorem dX12_fits_51 : decode cX12_fits 51 = .ok (.iconst (-1), 1) := by decide +kernel
theorem dX12_fits_52 : decode cX12_fits 52 = .ok (.if_icmp .ne 5, 3) := by decide +kernel
theorem dX12_fits_55 : decode cX12_fits 55 = .ok (.iload_n 2, 1) := by decide +kernel
theorem dX12_fits_56 : decode cX12_fits 56 = .ok (.ireturn, 1) := by decide +kernel
theorem dX12_fits_57 : decode cX12_fits 57 = .ok (.iload_n 3, 1) := by decide +kernel
theorem dX12_fits_58 : decode cX12_fits 58 = .ok (.ifCond .lt 17, 3) := by decide +kernel
theorem dX12_fits_61 : decode cX12_fits 61 = .ok (.iload_n 1, 1) := by decide +kernel
theorem dX12_fits_62 : decode cX12_fits 62 = .ok (.iconst 0, 1) := by decide +kernel
theorem dX12_fits_63 : decode cX12_fits 63 = .ok (.aload_n 0, 1) := by decide +kernel
theorem dX12_fits_64 : decode cX12_fits 64 = .ok (.invokevirtual 153, 3) := by decide +kernel
theorem dX12_fits_67 : decode cX12_fits 67 = .ok (.iconst 1, 1) := by decide +kernel
theorem dX12_fits_68 : decode cX12_fits 68 = .ok (.isub, 1) := by decide +kernel
theorem dX12_fits_69 : decode cX12_fits 69 = .ok (.invokestatic 66, 3) := by decide +kernel
theorem dX12_fits_72 : decode cX12_fits 72 = .ok (.ifCond .ne 6, 3) := by decide +kernel
theorem dX12_fits_75 : decode cX12_fits 75 = .ok (.bipush (-6), 2) := by decide +kernel
theorem dX12_fits_77 : decode cX12_fits 77 = .ok (.ireturn, 1) := by decide +kernel
theorem dX12_fits_78 : decode cX12_fits 78 = .ok (.iload_n 3, 1) := by decide +kernel
theorem dX12_fits_79 : decode cX12_fits 79 = .ok (.istore 4, 2) := by decide +kernel
theorem dX12_fits_81 : decode cX12_fits 81 = .ok (.aload_n 0, 1) := by decide +kernel
theorem dX12_fits_82 : decode cX12_fits 82 = .ok (.invokevirtual 153, 3) := by decide +kernel
theorem dX12_fits_85 : decode cX12_fits 85 = .ok (.iconst 1, 1) := by decide +kernel
theorem dX12_fits_86 : decode cX12_fits 86 = .ok (.isub, 1) := by decide +kernel
theorem dX12_fits_87 : decode cX12_fits 87 = .ok (.istore 5, 2) := by decide +kernel
theorem dX12_fits_89 : decode cX12_fits 89 = .ok (.iload 5, 2) := by decide +kernel
theorem dX12_fits_91 : decode cX12_fits 91 = .ok (.iload_n 1, 1) := by decide +kernel
theorem dX12_fits_92 : decode cX12_fits 92 = .ok (.if_icmp .le 16, 3) := by decide +kernel
theorem dX12_fits_95 : decode cX12_fits 95 = .ok (.iload 4, 2) := by decide +kernel
theorem dX12_fits_97 : decode cX12_fits 97 = .ok (.bipush 19, 2) := by decide +kernel
theorem dX12_fits_99 : decode cX12_fits 99 = .ok (.idiv, 1) := by decide +kernel
theorem dX12_fits_100 : decode cX12_fits 100 = .ok (.istore 4, 2) := by decide +kernel
theorem dX12_fits_102 : decode cX12_fits 102 = .ok (.iinc 5 (-1), 3) := by decide +kernel
theorem dX12_fits_105 : decode cX12_fits 105 = .ok (.goto (-16), 3) := by decide +kernel
theorem dX12_fits_108 : decode cX12_fits 108 = .ok (.iload 4, 2) := by decide +kernel
theorem dX12_fits_110 : decode cX12_fits 110 = .ok (.bipush 19, 2) := by decide +kernel
theorem dX12_fits_112 : decode cX12_fits 112 = .ok (.irem, 1) := by decide +kernel
theorem dX12_fits_113 : decode cX12_fits 113 = .ok (.ireturn, 1) := by decide +kernel
theorem dX12_liking_0 : decode cX12_liking 0 = .ok (.aload_n 0, 1) := by decide +kernel
theorem dX12_liking_1 : decode cX12_liking 1 = .ok (.iload_n 1, 1) := by decide +kernel
theorem dX12_liking_2 : decode cX12_liking 2 = .ok (.invokevirtual 80, 3) := by decide +kernel
theorem dX12_liking_5 : decode cX12_liking 5 = .ok (.ifCond .eq 12, 3) := by decide +kernel
theorem dX12_liking_8 : decode cX12_liking 8 = .ok (.aload_n 0, 1) := by decide +kernel
theorem dX12_liking_9 : decode cX12_liking 9 = .ok (.getfield 16, 3) := by decide +kernel
theorem dX12_liking_12 : decode cX12_liking 12 = .ok (.iload_n 1, 1) := by decide +kernel
theorem dX12_liking_13 : decode cX12_liking 13 = .ok (.baload, 1) := by decide +kernel
theorem dX12_liking_14 : decode cX12_liking 14 = .ok (.ifCond .eq 5, 3) := by decide +kernel
theorem dX12_liking_17 : decode cX12_liking 17 = .ok (.iconst (-1), 1) := by decide +kernel
theorem dX12_liking_18 : decode cX12_liking 18 = .ok (.ireturn, 1) := by decide +kernel
theorem dX12_liking_19 : decode cX12_liking 19 = .ok (.iload_n 2, 1) := by decide +kernel
theorem dX12_liking_20 : decode cX12_liking 20 = .ok (.iconst 0, 1) := by decide +kernel
theorem dX12_liking_21 : decode cX12_liking 21 = .ok (.iconst 1, 1) := by decide +kernel
theorem dX12_liking_22 : decode cX12_liking 22 = .ok (.invokestatic 66, 3) := by decide +kernel
theorem dX12_liking_25 : decode cX12_liking 25 = .ok (.ifCond .ne 6, 3) := by decide +kernel
theorem dX12_liking_28 : decode cX12_liking 28 = .ok (.bipush (-2), 2) := by decide +kernel
theorem dX12_liking_30 : decode cX12_liking 30 = .ok (.ireturn, 1) := by decide +kernel
theorem dX12_liking_31 : decode cX12_liking 31 = .ok (.bipush 100, 2) := by decide +kernel
theorem dX12_liking_33 : decode cX12_liking 33 = .ok (.istore_n 3, 1) := by decide +kernel
theorem dX12_liking_34 : decode cX12_liking 34 = .ok (.bipush (-6), 2) := by decide +kernel
theorem dX12_liking_36 : decode cX12_liking 36 = .ok (.istore 4, 2) := by decide +kernel
theorem dX12_liking_38 : decode cX12_liking 38 = .ok (.iconst 0, 1) := by decide +kernel
theorem dX12_liking_39 : decode cX12_liking 39 = .ok (.istore 5, 2) := by decide +kernel
theorem dX12_liking_41 : decode cX12_liking 41 = .ok (.iload 5, 2) := by decide +kernel
theorem dX12_liking_43 : decode cX12_liking 43 = .ok (.aload_n 0, 1) := by decide +kernel
theorem dX12_liking_44 : decode cX12_liking 44 = .ok (.invokevirtual 156, 3) := by decide +kernel
theorem dX12_liking_47 : decode cX12_liking 47 = .ok (.if_icmp .ge 58, 3) := by decide +kernel
theorem dX12_liking_50 : decode cX12_liking 50 = .ok (.aload_n 0, 1) := by decide +kernel
theorem dX12_liking_51 : decode cX12_liking 51 = .ok (.iload 5, 2) := by decide +kernel
theorem dX12_liking_53 : decode cX12_liking 53 = .ok (.invokevirtual 159, 3) := by decide +kernel
theorem dX12_liking_56 : decode cX12_liking 56 = .ok (.ifCond .eq 43, 3) := by decide +kernel
theorem dX12_liking_59 : decode cX12_liking 59 = .ok (.aload_n 0, 1) := by decide +kernel
theorem dX12_liking_60 : decode cX12_liking 60 = .ok (.getfield 13, 3) := by decide +kernel
theorem dX12_liking_63 : decode cX12_liking 63 = .ok (.iload_n 1, 1) := by decide +kernel
theorem dX12_liking_64 : decode cX12_liking 64 = .ok (.iaload, 1) := by decide +kernel
theorem dX12_liking_65 : decode cX12_liking 65 = .ok (.bipush 9, 2) := by decide +kernel
theorem dX12_liking_67 : decode cX12_liking 67 = .ok (.iadd, 1) := by decide +kernel
theorem dX12_liking_68 : decode cX12_liking 68 = .ok (.istore 6, 2) := by decide +kernel
theorem dX12_liking_70 : decode cX12_liking 70 = .ok (.iload 6, 2) := by decide +kernel
theorem dX12_liking_72 : decode cX12_liking 72 = .ok (.iload_n 3, 1) := by decide +kernel
theorem dX12_liking_73 : decode cX12_liking 73 = .ok (.if_icmp .ge 8, 3) := by decide +kernel
theorem dX12_liking_76 : decode cX12_liking 76 = .ok (.iload 6, 2) := by decide +kernel
theorem dX12_liking_78 : decode cX12_liking 78 = .ok (.goto 4, 3) := by decide +kernel
theorem dX12_liking_81 : decode cX12_liking 81 = .ok (.iload_n 3, 1) := by decide +kernel
theorem dX12_liking_82 : decode cX12_liking 82 = .ok (.istore_n 3, 1) := by decide +kernel
theorem dX12_liking_83 : decode cX12_liking 83 = .ok (.iload 6, 2) := by decide +kernel
theorem dX12_liking_85 : decode cX12_liking 85 = .ok (.iload 4, 2) := by decide +kernel
theorem dX12_liking_87 : decode cX12_liking 87 = .ok (.if_icmp .le 8, 3) := by decide +kernel
theorem dX12_liking_90 : decode cX12_liking 90 = .ok (.iload 6, 2) := by decide +kernel
theorem dX12_liking_92 : decode cX12_liking 92 = .ok (.goto 5, 3) := by decide +kernel
theorem dX12_liking_95 : decode cX12_liking 95 = .ok (.iload 4, 2) := by decide +kernel
theorem dX12_liking_97 : decode cX12_liking 97 = .ok (.istore 4, 2) := by decide +kernel
theorem dX12_liking_99 : decode cX12_liking 99 = .ok (.iinc 5 1, 3) := by decide +kernel
theorem dX12_liking_102 : decode cX12_liking 102 = .ok (.goto (-61), 3) := by decide +kernel
theorem dX12_liking_105 : decode cX12_liking 105 = .ok (.aload_n 0, 1) := by decide +kernel
theorem dX12_liking_106 : decode cX12_liking 106 = .ok (.invokevirtual 162, 3) := by decide +kernel
theorem dX12_liking_109 : decode cX12_liking 109 = .ok (.iload 4, 2) := by decide +kernel
theorem dX12_liking_111 : decode cX12_liking 111 = .ok (.ifCond .ge 8, 3) := by decide +kernel
theorem dX12_liking_114 : decode cX12_liking 114 = .ok (.bipush (-3), 2) := by decide +kernel
theorem dX12_liking_116 : decode cX12_liking 116 = .ok (.goto 13, 3) := by decide +kernel
theorem dX12_liking_119 : decode cX12_liking 119 = .ok (.iload_n 2, 1) := by decide +kernel
theorem dX12_liking_120 : decode cX12_liking 120 = .ok (.ifCond .ne 7, 3) := by decide +kernel
theorem dX12_liking_123 : decode cX12_liking 123 = .ok (.iload_n 3, 1) := by decide +kernel
theorem dX12_liking_124 : decode cX12_liking 124 = .ok (.goto 5, 3) := by decide +kernel
theorem dX12_liking_127 : decode cX12_liking 127 = .ok (.iload 4, 2) := by decide +kernel
theorem dX12_liking_129 : decode cX12_liking 129 = .ok (.ireturn, 1) := by decide +kernel
theorem dX12_ask_0 : decode cX12_ask 0 = .ok (.iload_n 1, 1) := by decide +kernel
theorem dX12_ask_1 : decode cX12_ask 1 = .ok (.iload_n 2, 1) := by decide +kernel
theorem dX12_ask_2 : decode cX12_ask 2 = .ok (.invokestatic 107, 3) := by decide +kernel
theorem dX12_ask_5 : decode cX12_ask 5 = .ok (.ifCond .eq 13, 3) := by decide +kernel
theorem dX12_ask_8 : decode cX12_ask 8 = .ok (.iload_n 3, 1) := by decide +kernel
theorem dX12_ask_9 : decode cX12_ask 9 = .ok (.iconst 0, 1) := by decide +kernel
theorem dX12_ask_10 : decode cX12_ask 10 = .ok (.bipush 99, 2) := by decide +kernel
theorem dX12_ask_12 : decode cX12_ask 12 = .ok (.invokestatic 66, 3) := by decide +kernel
theorem dX12_ask_15 : decode cX12_ask 15 = .ok (.ifCond .ne 6, 3) := by decide +kernel
theorem dX12_ask_18 : decode cX12_ask 18 = .ok (.bipush (-2), 2) := by decide +kernel
theorem dX12_ask_20 : decode cX12_ask 20 = .ok (.ireturn, 1) := by decide +kernel
theorem dX12_ask_21 : decode cX12_ask 21 = .ok (.aload_n 0, 1) := by decide +kernel
theorem dX12_ask_22 : decode cX12_ask 22 = .ok (.getfield 165, 3) := by decide +kernel
theorem dX12_ask_25 : decode cX12_ask 25 = .ok (.iconst 5, 1) := by decide +kernel
theorem dX12_ask_26 : decode cX12_ask 26 = .ok (.if_icmp .ne 6, 3) := by decide +kernel
theorem dX12_ask_29 : decode cX12_ask 29 = .ok (.bipush (-4), 2) := by decide +kernel
theorem dX12_ask_31 : decode cX12_ask 31 = .ok (.ireturn, 1) := by decide +kernel
theorem dX12_ask_32 : decode cX12_ask 32 = .ok (.aload_n 0, 1) := by decide +kernel
theorem dX12_ask_33 : decode cX12_ask 33 = .ok (.getfield 33, 3) := by decide +kernel
theorem dX12_ask_36 : decode cX12_ask 36 = .ok (.iconst 3, 1) := by decide +kernel
theorem dX12_ask_37 : decode cX12_ask 37 = .ok (.aload_n 0, 1) := by decide +kernel
theorem dX12_ask_38 : decode cX12_ask 38 = .ok (.getfield 165, 3) := by decide +kernel
theorem dX12_ask_41 : decode cX12_ask 41 = .ok (.imul, 1) := by decide +kernel
theorem dX12_ask_42 : decode cX12_ask 42 = .ok (.iload_n 1, 1) := by decide +kernel
theorem dX12_ask_43 : decode cX12_ask 43 = .ok (.iastore, 1) := by decide +kernel
theorem dX12_ask_44 : decode cX12_ask 44 = .ok (.aload_n 0, 1) := by decide +kernel
theorem dX12_ask_45 : decode cX12_ask 45 = .ok (.getfield 33, 3) := by decide +kernel
theorem dX12_ask_48 : decode cX12_ask 48 = .ok (.iconst 3, 1) := by decide +kernel
theorem dX12_ask_49 : decode cX12_ask 49 = .ok (.aload_n 0, 1) := by decide +kernel
theorem dX12_ask_50 : decode cX12_ask 50 = .ok (.getfield 165, 3) := by decide +kernel
theorem dX12_ask_53 : decode cX12_ask 53 = .ok (.imul, 1) := by decide +kernel
theorem dX12_ask_54 : decode cX12_ask 54 = .ok (.iconst 1, 1) := by decide +kernel
theorem dX12_ask_55 : decode cX12_ask 55 = .ok (.iadd, 1) := by decide +kernel
theorem dX12_ask_56 : decode cX12_ask 56 = .ok (.iload_n 2, 1) := by decide +kernel
theorem dX12_ask_57 : decode cX12_ask 57 = .ok (.iastore, 1) := by decide +kernel
theorem dX12_ask_58 : decode cX12_ask 58 = .ok (.aload_n 0, 1) := by decide +kernel
theorem dX12_ask_59 : decode cX12_ask 59 = .ok (.getfield 33, 3) := by decide +kernel
theorem dX12_ask_62 : decode cX12_ask 62 = .ok (.iconst 3, 1) := by decide +kernel
theorem dX12_ask_63 : decode cX12_ask 63 = .ok (.aload_n 0, 1) := by decide +kernel
theorem dX12_ask_64 : decode cX12_ask 64 = .ok (.getfield 165, 3) := by decide +kernel
theorem dX12_ask_67 : decode cX12_ask 67 = .ok (.imul, 1) := by decide +kernel
theorem dX12_ask_68 : decode cX12_ask 68 = .ok (.iconst 2, 1) := by decide +kernel
theorem dX12_ask_69 : decode cX12_ask 69 = .ok (.iadd, 1) := by decide +kernel
theorem dX12_ask_70 : decode cX12_ask 70 = .ok (.iload_n 3, 1) := by decide +kernel
theorem dX12_ask_71 : decode cX12_ask 71 = .ok (.iastore, 1) := by decide +kernel
theorem dX12_ask_72 : decode cX12_ask 72 = .ok (.aload_n 0, 1) := by decide +kernel
theorem dX12_ask_73 : decode cX12_ask 73 = .ok (.dup, 1) := by decide +kernel
theorem dX12_ask_74 : decode cX12_ask 74 = .ok (.getfield 165, 3) := by decide +kernel
theorem dX12_ask_77 : decode cX12_ask 77 = .ok (.iconst 1, 1) := by decide +kernel
theorem dX12_ask_78 : decode cX12_ask 78 = .ok (.iadd, 1) := by decide +kernel
theorem dX12_ask_79 : decode cX12_ask 79 = .ok (.putfield 165, 3) := by decide +kernel
theorem dX12_ask_82 : decode cX12_ask 82 = .ok (.aload_n 0, 1) := by decide +kernel
theorem dX12_ask_83 : decode cX12_ask 83 = .ok (.getfield 165, 3) := by decide +kernel
theorem dX12_ask_86 : decode cX12_ask 86 = .ok (.ireturn, 1) := by decide +kernel
theorem dX12_drop_0 : decode cX12_drop 0 = .ok (.aload_n 0, 1) := by decide +kernel
theorem dX12_drop_1 : decode cX12_drop 1 = .ok (.getfield 165, 3) := by decide +kernel
theorem dX12_drop_4 : decode cX12_drop 4 = .ok (.istore_n 1, 1) := by decide +kernel
theorem dX12_drop_5 : decode cX12_drop 5 = .ok (.aload_n 0, 1) := by decide +kernel
theorem dX12_drop_6 : decode cX12_drop 6 = .ok (.iconst 0, 1) := by decide +kernel
theorem dX12_drop_7 : decode cX12_drop 7 = .ok (.putfield 165, 3) := by decide +kernel
theorem dX12_drop_10 : decode cX12_drop 10 = .ok (.iload_n 1, 1) := by decide +kernel
theorem dX12_drop_11 : decode cX12_drop 11 = .ok (.ireturn, 1) := by decide +kernel
theorem dX12_hunger_0 : decode cX12_hunger 0 = .ok (.iload_n 1, 1) := by decide +kernel
theorem dX12_hunger_1 : decode cX12_hunger 1 = .ok (.iconst 1, 1) := by decide +kernel
theorem dX12_hunger_2 : decode cX12_hunger 2 = .ok (.bipush 9, 2) := by decide +kernel
theorem dX12_hunger_4 : decode cX12_hunger 4 = .ok (.invokestatic 66, 3) := by decide +kernel
theorem dX12_hunger_7 : decode cX12_hunger 7 = .ok (.ifCond .ne 6, 3) := by decide +kernel
theorem dX12_hunger_10 : decode cX12_hunger 10 = .ok (.bipush (-2), 2) := by decide +kernel
theorem dX12_hunger_12 : decode cX12_hunger 12 = .ok (.ireturn, 1) := by decide +kernel
theorem dX12_hunger_13 : decode cX12_hunger 13 = .ok (.aload_n 0, 1) := by decide +kernel
theorem dX12_hunger_14 : decode cX12_hunger 14 = .ok (.getfield 26, 3) := by decide +kernel
theorem dX12_hunger_17 : decode cX12_hunger 17 = .ok (.istore_n 2, 1) := by decide +kernel
theorem dX12_hunger_18 : decode cX12_hunger 18 = .ok (.aload_n 0, 1) := by decide +kernel
theorem dX12_hunger_19 : decode cX12_hunger 19 = .ok (.iload_n 1, 1) := by decide +kernel
theorem dX12_hunger_20 : decode cX12_hunger 20 = .ok (.putfield 26, 3) := by decide +kernel
theorem dX12_hunger_23 : decode cX12_hunger 23 = .ok (.iload_n 2, 1) := by decide +kernel
theorem dX12_hunger_24 : decode cX12_hunger 24 = .ok (.ireturn, 1) := by decide +kernel
theorem dX12_layEvening_0 : decode cX12_layEvening 0 = .ok (.iload_n 1, 1) := by decide +kernel
theorem dX12_layEvening_1 : decode cX12_layEvening 1 = .ok (.istore_n 2, 1) := by decide +kernel
theorem dX12_layEvening_2 : decode cX12_layEvening 2 = .ok (.iconst 0, 1) := by decide +kernel
theorem dX12_layEvening_3 : decode cX12_layEvening 3 = .ok (.istore_n 3, 1) := by decide +kernel
theorem dX12_layEvening_4 : decode cX12_layEvening 4 = .ok (.aload_n 0, 1) := by decide +kernel
theorem dX12_layEvening_5 : decode cX12_layEvening 5 = .ok (.getfield 165, 3) := by decide +kernel
theorem dX12_layEvening_8 : decode cX12_layEvening 8 = .ok (.iconst 1, 1) := by decide +kernel
theorem dX12_layEvening_9 : decode cX12_layEvening 9 = .ok (.isub, 1) := by decide +kernel
theorem dX12_layEvening_10 : decode cX12_layEvening 10 = .ok (.istore 4, 2) := by decide +kernel
theorem dX12_layEvening_12 : decode cX12_layEvening 12 = .ok (.iload 4, 2) := by decide +kernel
theorem dX12_layEvening_14 : decode cX12_layEvening 14 = .ok (.ifCond .lt 41, 3) := by decide +kernel
theorem dX12_layEvening_17 : decode cX12_layEvening 17 = .ok (.aload_n 0, 1) := by decide +kernel
theorem dX12_layEvening_18 : decode cX12_layEvening 18 = .ok (.getfield 54, 3) := by decide +kernel
theorem dX12_layEvening_21 : decode cX12_layEvening 21 = .ok (.iload 4, 2) := by decide +kernel
theorem dX12_layEvening_23 : decode cX12_layEvening 23 = .ok (.iload_n 2, 1) := by decide +kernel
theorem dX12_layEvening_24 : decode cX12_layEvening 24 = .ok (.aload_n 0, 1) := by decide +kernel
theorem dX12_layEvening_25 : decode cX12_layEvening 25 = .ok (.getfield 165, 3) := by decide +kernel
theorem dX12_layEvening_28 : decode cX12_layEvening 28 = .ok (.irem, 1) := by decide +kernel
theorem dX12_layEvening_29 : decode cX12_layEvening 29 = .ok (.iastore, 1) := by decide +kernel
theorem dX12_layEvening_30 : decode cX12_layEvening 30 = .ok (.iload_n 2, 1) := by decide +kernel
theorem dX12_layEvening_31 : decode cX12_layEvening 31 = .ok (.aload_n 0, 1) := by decide +kernel
theorem dX12_layEvening_32 : decode cX12_layEvening 32 = .ok (.getfield 165, 3) := by decide +kernel
theorem dX12_layEvening_35 : decode cX12_layEvening 35 = .ok (.idiv, 1) := by decide +kernel
theorem dX12_layEvening_36 : decode cX12_layEvening 36 = .ok (.istore_n 2, 1) := by decide +kernel
theorem dX12_layEvening_37 : decode cX12_layEvening 37 = .ok (.iload_n 3, 1) := by decide +kernel
theorem dX12_layEvening_38 : decode cX12_layEvening 38 = .ok (.iconst 1, 1) := by decide +kernel
theorem dX12_layEvening_39 : decode cX12_layEvening 39 = .ok (.aload_n 0, 1) := by decide +kernel
theorem dX12_layEvening_40 : decode cX12_layEvening 40 = .ok (.getfield 54, 3) := by decide +kernel
theorem dX12_layEvening_43 : decode cX12_layEvening 43 = .ok (.iload 4, 2) := by decide +kernel
theorem dX12_layEvening_45 : decode cX12_layEvening 45 = .ok (.iaload, 1) := by decide +kernel
theorem dX12_layEvening_46 : decode cX12_layEvening 46 = .ok (.ishl, 1) := by decide +kernel
theorem dX12_layEvening_47 : decode cX12_layEvening 47 = .ok (.ior, 1) := by decide +kernel
theorem dX12_layEvening_48 : decode cX12_layEvening 48 = .ok (.istore_n 3, 1) := by decide +kernel
theorem dX12_layEvening_49 : decode cX12_layEvening 49 = .ok (.iinc 4 (-1), 3) := by decide +kernel
theorem dX12_layEvening_52 : decode cX12_layEvening 52 = .ok (.goto (-40), 3) := by decide +kernel
theorem dX12_layEvening_55 : decode cX12_layEvening 55 = .ok (.iload_n 3, 1) := by decide +kernel
theorem dX12_layEvening_56 : decode cX12_layEvening 56 = .ok (.iconst 1, 1) := by decide +kernel
theorem dX12_layEvening_57 : decode cX12_layEvening 57 = .ok (.aload_n 0, 1) := by decide +kernel
theorem dX12_layEvening_58 : decode cX12_layEvening 58 = .ok (.getfield 165, 3) := by decide +kernel
theorem dX12_layEvening_61 : decode cX12_layEvening 61 = .ok (.ishl, 1) := by decide +kernel
theorem dX12_layEvening_62 : decode cX12_layEvening 62 = .ok (.iconst 1, 1) := by decide +kernel
theorem dX12_layEvening_63 : decode cX12_layEvening 63 = .ok (.isub, 1) := by decide +kernel
theorem dX12_layEvening_64 : decode cX12_layEvening 64 = .ok (.if_icmp .ne 7, 3) := by decide +kernel
theorem dX12_layEvening_67 : decode cX12_layEvening 67 = .ok (.iconst 1, 1) := by decide +kernel
theorem dX12_layEvening_68 : decode cX12_layEvening 68 = .ok (.goto 4, 3) := by decide +kernel
theorem dX12_layEvening_71 : decode cX12_layEvening 71 = .ok (.iconst 0, 1) := by decide +kernel
theorem dX12_layEvening_72 : decode cX12_layEvening 72 = .ok (.ireturn, 1) := by decide +kernel
theorem dX12_best_0 : decode cX12_best 0 = .ok (.iconst 1, 1) := by decide +kernel
theorem dX12_best_1 : decode cX12_best 1 = .ok (.istore_n 2, 1) := by decide +kernel
theorem dX12_best_2 : decode cX12_best 2 = .ok (.iconst 0, 1) := by decide +kernel
theorem dX12_best_3 : decode cX12_best 3 = .ok (.istore_n 3, 1) := by decide +kernel
theorem dX12_best_4 : decode cX12_best 4 = .ok (.iload_n 3, 1) := by decide +kernel
theorem dX12_best_5 : decode cX12_best 5 = .ok (.aload_n 0, 1) := by decide +kernel
theorem dX12_best_6 : decode cX12_best 6 = .ok (.getfield 165, 3) := by decide +kernel
theorem dX12_best_9 : decode cX12_best 9 = .ok (.if_icmp .ge 16, 3) := by decide +kernel
theorem dX12_best_12 : decode cX12_best 12 = .ok (.iload_n 2, 1) := by decide +kernel
theorem dX12_best_13 : decode cX12_best 13 = .ok (.aload_n 0, 1) := by decide +kernel
theorem dX12_best_14 : decode cX12_best 14 = .ok (.getfield 165, 3) := by decide +kernel
theorem dX12_best_17 : decode cX12_best 17 = .ok (.imul, 1) := by decide +kernel
theorem dX12_best_18 : decode cX12_best 18 = .ok (.istore_n 2, 1) := by decide +kernel
theorem dX12_best_19 : decode cX12_best 19 = .ok (.iinc 3 1, 3) := by decide +kernel
theorem dX12_best_22 : decode cX12_best 22 = .ok (.goto (-18), 3) := by decide +kernel
theorem dX12_best_25 : decode cX12_best 25 = .ok (.bipush (-6), 2) := by decide +kernel
theorem dX12_best_27 : decode cX12_best 27 = .ok (.istore_n 3, 1) := by decide +kernel
theorem dX12_best_28 : decode cX12_best 28 = .ok (.bipush (-6), 2) := by decide +kernel
theorem dX12_best_30 : decode cX12_best 30 = .ok (.istore 4, 2) := by decide +kernel
theorem dX12_best_32 : decode cX12_best 32 = .ok (.aload_n 0, 1) := by decide +kernel
theorem dX12_best_33 : decode cX12_best 33 = .ok (.invokevirtual 97, 3) := by decide +kernel
theorem dX12_best_36 : decode cX12_best 36 = .ok (.iconst 0, 1) := by decide +kernel
theorem dX12_best_37 : decode cX12_best 37 = .ok (.istore 5, 2) := by decide +kernel
theorem dX12_best_39 : decode cX12_best 39 = .ok (.iload 5, 2) := by decide +kernel
theorem dX12_best_41 : decode cX12_best 41 = .ok (.iload_n 2, 1) := by decide +kernel
theorem dX12_best_42 : decode cX12_best 42 = .ok (.if_icmp .ge 118, 3) := by decide +kernel
theorem dX12_best_45 : decode cX12_best 45 = .ok (.aload_n 0, 1) := by decide +kernel
theorem dX12_best_46 : decode cX12_best 46 = .ok (.iload 5, 2) := by decide +kernel
theorem dX12_best_48 : decode cX12_best 48 = .ok (.invokevirtual 168, 3) := by decide +kernel
theorem dX12_best_51 : decode cX12_best 51 = .ok (.ifCond .eq 103, 3) := by decide +kernel
theorem dX12_best_54 : decode cX12_best 54 = .ok (.aload_n 0, 1) := by decide +kernel
theorem dX12_best_55 : decode cX12_best 55 = .ok (.invokevirtual 100, 3) := by decide +kernel
theorem dX12_best_58 : decode cX12_best 58 = .ok (.iconst 0, 1) := by decide +kernel
theorem dX12_best_59 : decode cX12_best 59 = .ok (.istore 6, 2) := by decide +kernel
theorem dX12_best_61 : decode cX12_best 61 = .ok (.iconst 0, 1) := by decide +kernel
theorem dX12_best_62 : decode cX12_best 62 = .ok (.istore 7, 2) := by decide +kernel
theorem dX12_best_64 : decode cX12_best 64 = .ok (.iload 7, 2) := by decide +kernel
theorem dX12_best_66 : decode cX12_best 66 = .ok (.aload_n 0, 1) := by decide +kernel
theorem dX12_best_67 : decode cX12_best 67 = .ok (.getfield 165, 3) := by decide +kernel
theorem dX12_best_70 : decode cX12_best 70 = .ok (.if_icmp .ge 71, 3) := by decide +kernel
theorem dX12_best_73 : decode cX12_best 73 = .ok (.aload_n 0, 1) := by decide +kernel
theorem dX12_best_74 : decode cX12_best 74 = .ok (.getfield 54, 3) := by decide +kernel
theorem dX12_best_77 : decode cX12_best 77 = .ok (.iload 7, 2) := by decide +kernel
theorem dX12_best_79 : decode cX12_best 79 = .ok (.iaload, 1) := by decide +kernel
theorem dX12_best_80 : decode cX12_best 80 = .ok (.istore 8, 2) := by decide +kernel
theorem dX12_best_82 : decode cX12_best 82 = .ok (.aload_n 0, 1) := by decide +kernel
theorem dX12_best_83 : decode cX12_best 83 = .ok (.aload_n 0, 1) := by decide +kernel
theorem dX12_best_84 : decode cX12_best 84 = .ok (.getfield 33, 3) := by decide +kernel
theorem dX12_best_87 : decode cX12_best 87 = .ok (.iconst 3, 1) := by decide +kernel
theorem dX12_best_88 : decode cX12_best 88 = .ok (.iload 8, 2) := by decide +kernel
theorem dX12_best_90 : decode cX12_best 90 = .ok (.imul, 1) := by decide +kernel
theorem dX12_best_91 : decode cX12_best 91 = .ok (.iaload, 1) := by decide +kernel
theorem dX12_best_92 : decode cX12_best 92 = .ok (.aload_n 0, 1) := by decide +kernel
theorem dX12_best_93 : decode cX12_best 93 = .ok (.getfield 33, 3) := by decide +kernel
theorem dX12_best_96 : decode cX12_best 96 = .ok (.iconst 3, 1) := by decide +kernel
theorem dX12_best_97 : decode cX12_best 97 = .ok (.iload 8, 2) := by decide +kernel
theorem dX12_best_99 : decode cX12_best 99 = .ok (.imul, 1) := by decide +kernel
theorem dX12_best_100 : decode cX12_best 100 = .ok (.iconst 1, 1) := by decide +kernel
theorem dX12_best_101 : decode cX12_best 101 = .ok (.iadd, 1) := by decide +kernel
theorem dX12_best_102 : decode cX12_best 102 = .ok (.iaload, 1) := by decide +kernel
theorem dX12_best_103 : decode cX12_best 103 = .ok (.bipush (-6), 2) := by decide +kernel
theorem dX12_best_105 : decode cX12_best 105 = .ok (.invokevirtual 103, 3) := by decide +kernel
theorem dX12_best_108 : decode cX12_best 108 = .ok (.iload 6, 2) := by decide +kernel
theorem dX12_best_110 : decode cX12_best 110 = .ok (.aload_n 0, 1) := by decide +kernel
theorem dX12_best_111 : decode cX12_best 111 = .ok (.invokevirtual 113, 3) := by decide +kernel
theorem dX12_best_114 : decode cX12_best 114 = .ok (.ifCond .ne 17, 3) := by decide +kernel
theorem dX12_best_117 : decode cX12_best 117 = .ok (.aload_n 0, 1) := by decide +kernel
theorem dX12_best_118 : decode cX12_best 118 = .ok (.getfield 33, 3) := by decide +kernel
theorem dX12_best_121 : decode cX12_best 121 = .ok (.iconst 3, 1) := by decide +kernel
theorem dX12_best_122 : decode cX12_best 122 = .ok (.iload 8, 2) := by decide +kernel
theorem dX12_best_124 : decode cX12_best 124 = .ok (.imul, 1) := by decide +kernel
theorem dX12_best_125 : decode cX12_best 125 = .ok (.iconst 2, 1) := by decide +kernel
theorem dX12_best_126 : decode cX12_best 126 = .ok (.iadd, 1) := by decide +kernel
theorem dX12_best_127 : decode cX12_best 127 = .ok (.iaload, 1) := by decide +kernel
theorem dX12_best_128 : decode cX12_best 128 = .ok (.goto 4, 3) := by decide +kernel
theorem dX12_best_131 : decode cX12_best 131 = .ok (.iconst 0, 1) := by decide +kernel
theorem dX12_best_132 : decode cX12_best 132 = .ok (.iadd, 1) := by decide +kernel
theorem dX12_best_133 : decode cX12_best 133 = .ok (.istore 6, 2) := by decide +kernel
theorem dX12_best_135 : decode cX12_best 135 = .ok (.iinc 7 1, 3) := by decide +kernel
theorem dX12_best_138 : decode cX12_best 138 = .ok (.goto (-74), 3) := by decide +kernel
theorem dX12_best_141 : decode cX12_best 141 = .ok (.iload 6, 2) := by decide +kernel
theorem dX12_best_143 : decode cX12_best 143 = .ok (.iload_n 3, 1) := by decide +kernel
theorem dX12_best_144 : decode cX12_best 144 = .ok (.if_icmp .le 10, 3) := by decide +kernel
theorem dX12_best_147 : decode cX12_best 147 = .ok (.iload 6, 2) := by decide +kernel
theorem dX12_best_149 : decode cX12_best 149 = .ok (.istore_n 3, 1) := by decide +kernel
theorem dX12_best_150 : decode cX12_best 150 = .ok (.iload 5, 2) := by decide +kernel
theorem dX12_best_152 : decode cX12_best 152 = .ok (.istore 4, 2) := by decide +kernel
theorem dX12_best_154 : decode cX12_best 154 = .ok (.iinc 5 1, 3) := by decide +kernel
theorem dX12_best_157 : decode cX12_best 157 = .ok (.goto (-118), 3) := by decide +kernel
theorem dX12_best_160 : decode cX12_best 160 = .ok (.aload_n 0, 1) := by decide +kernel
theorem dX12_best_161 : decode cX12_best 161 = .ok (.iload 4, 2) := by decide +kernel
theorem dX12_best_163 : decode cX12_best 163 = .ok (.invokevirtual 168, 3) := by decide +kernel
theorem dX12_best_166 : decode cX12_best 166 = .ok (.istore 5, 2) := by decide +kernel
theorem dX12_best_168 : decode cX12_best 168 = .ok (.iload_n 1, 1) := by decide +kernel
theorem dX12_best_169 : decode cX12_best 169 = .ok (.iconst (-1), 1) := by decide +kernel
theorem dX12_best_170 : decode cX12_best 170 = .ok (.if_icmp .ne 7, 3) := by decide +kernel
theorem dX12_best_173 : decode cX12_best 173 = .ok (.iload_n 3, 1) := by decide +kernel
theorem dX12_best_174 : decode cX12_best 174 = .ok (.goto 33, 3) := by decide +kernel
theorem dX12_best_177 : decode cX12_best 177 = .ok (.iload 5, 2) := by decide +kernel
theorem dX12_best_179 : decode cX12_best 179 = .ok (.ifCond .eq 26, 3) := by decide +kernel
theorem dX12_best_182 : decode cX12_best 182 = .ok (.iload_n 1, 1) := by decide +kernel
theorem dX12_best_183 : decode cX12_best 183 = .ok (.iconst 0, 1) := by decide +kernel
theorem dX12_best_184 : decode cX12_best 184 = .ok (.aload_n 0, 1) := by decide +kernel
theorem dX12_best_185 : decode cX12_best 185 = .ok (.getfield 165, 3) := by decide +kernel
theorem dX12_best_188 : decode cX12_best 188 = .ok (.iconst 1, 1) := by decide +kernel
theorem dX12_best_189 : decode cX12_best 189 = .ok (.isub, 1) := by decide +kernel
theorem dX12_best_190 : decode cX12_best 190 = .ok (.invokestatic 66, 3) := by decide +kernel
theorem dX12_best_193 : decode cX12_best 193 = .ok (.ifCond .eq 12, 3) := by decide +kernel
theorem dX12_best_196 : decode cX12_best 196 = .ok (.aload_n 0, 1) := by decide +kernel
theorem dX12_best_197 : decode cX12_best 197 = .ok (.getfield 54, 3) := by decide +kernel
theorem dX12_best_200 : decode cX12_best 200 = .ok (.iload_n 1, 1) := by decide +kernel
theorem dX12_best_201 : decode cX12_best 201 = .ok (.iaload, 1) := by decide +kernel
theorem dX12_best_202 : decode cX12_best 202 = .ok (.goto 5, 3) := by decide +kernel
theorem dX12_best_205 : decode cX12_best 205 = .ok (.bipush (-6), 2) := by decide +kernel
theorem dX12_best_207 : decode cX12_best 207 = .ok (.ireturn, 1) := by decide +kernel
theorem dX12_night_0 : decode cX12_night 0 = .ok (.iload_n 1, 1) := by decide +kernel
theorem dX12_night_1 : decode cX12_night 1 = .ok (.iconst 0, 1) := by decide +kernel
theorem dX12_night_2 : decode cX12_night 2 = .ok (.sipush 9999, 3) := by decide +kernel
theorem dX12_night_5 : decode cX12_night 5 = .ok (.invokestatic 66, 3) := by decide +kernel
theorem dX12_night_8 : decode cX12_night 8 = .ok (.ifCond .eq 22, 3) := by decide +kernel
theorem dX12_night_11 : decode cX12_night 11 = .ok (.iload_n 2, 1) := by decide +kernel
theorem dX12_night_12 : decode cX12_night 12 = .ok (.iconst 1, 1) := by decide +kernel
theorem dX12_night_13 : decode cX12_night 13 = .ok (.bipush 60, 2) := by decide +kernel
theorem dX12_night_15 : decode cX12_night 15 = .ok (.invokestatic 66, 3) := by decide +kernel
theorem dX12_night_18 : decode cX12_night 18 = .ok (.ifCond .eq 12, 3) := by decide +kernel
theorem dX12_night_21 : decode cX12_night 21 = .ok (.iload_n 3, 1) := by decide +kernel
theorem dX12_night_22 : decode cX12_night 22 = .ok (.iconst 0, 1) := by decide +kernel
theorem dX12_night_23 : decode cX12_night 23 = .ok (.iconst 2, 1) := by decide +kernel
theorem dX12_night_24 : decode cX12_night 24 = .ok (.invokestatic 66, 3) := by decide +kernel
theorem dX12_night_27 : decode cX12_night 27 = .ok (.ifCond .ne 6, 3) := by decide +kernel
theorem dX12_night_30 : decode cX12_night 30 = .ok (.bipush (-2), 2) := by decide +kernel
theorem dX12_night_32 : decode cX12_night 32 = .ok (.ireturn, 1) := by decide +kernel
theorem dX12_night_33 : decode cX12_night 33 = .ok (.iload_n 1, 1) := by decide +kernel
theorem dX12_night_34 : decode cX12_night 34 = .ok (.istore 4, 2) := by decide +kernel
theorem dX12_night_36 : decode cX12_night 36 = .ok (.iconst 0, 1) := by decide +kernel
theorem dX12_night_37 : decode cX12_night 37 = .ok (.istore 5, 2) := by decide +kernel
theorem dX12_night_39 : decode cX12_night 39 = .ok (.iconst 0, 1) := by decide +kernel
theorem dX12_night_40 : decode cX12_night 40 = .ok (.istore 6, 2) := by decide +kernel
theorem dX12_night_42 : decode cX12_night 42 = .ok (.iload 6, 2) := by decide +kernel
theorem dX12_night_44 : decode cX12_night 44 = .ok (.iload_n 2, 1) := by decide +kernel
theorem dX12_night_45 : decode cX12_night 45 = .ok (.if_icmp .ge 59, 3) := by decide +kernel
theorem dX12_night_48 : decode cX12_night 48 = .ok (.bipush 75, 2) := by decide +kernel
theorem dX12_night_50 : decode cX12_night 50 = .ok (.iload 4, 2) := by decide +kernel
theorem dX12_night_52 : decode cX12_night 52 = .ok (.imul, 1) := by decide +kernel
theorem dX12_night_53 : decode cX12_night 53 = .ok (.bipush 74, 2) := by decide +kernel
theorem dX12_night_55 : decode cX12_night 55 = .ok (.iadd, 1) := by decide +kernel
theorem dX12_night_56 : decode cX12_night 56 = .ok (.ldc 171, 2) := by decide +kernel
theorem dX12_night_58 : decode cX12_night 58 = .ok (.irem, 1) := by decide +kernel
theorem dX12_night_59 : decode cX12_night 59 = .ok (.istore 4, 2) := by decide +kernel
theorem dX12_night_61 : decode cX12_night 61 = .ok (.aload_n 0, 1) := by decide +kernel
theorem dX12_night_62 : decode cX12_night 62 = .ok (.iload 4, 2) := by decide +kernel
theorem dX12_night_64 : decode cX12_night 64 = .ok (.bipush 10, 2) := by decide +kernel
theorem dX12_night_66 : decode cX12_night 66 = .ok (.irem, 1) := by decide +kernel
theorem dX12_night_67 : decode cX12_night 67 = .ok (.iload 4, 2) := by decide +kernel
theorem dX12_night_69 : decode cX12_night 69 = .ok (.bipush 10, 2) := by decide +kernel
theorem dX12_night_71 : decode cX12_night 71 = .ok (.idiv, 1) := by decide +kernel
theorem dX12_night_72 : decode cX12_night 72 = .ok (.bipush 10, 2) := by decide +kernel
theorem dX12_night_74 : decode cX12_night 74 = .ok (.irem, 1) := by decide +kernel
theorem dX12_night_75 : decode cX12_night 75 = .ok (.bipush (-6), 2) := by decide +kernel
theorem dX12_night_77 : decode cX12_night 77 = .ok (.invokevirtual 110, 3) := by decide +kernel
theorem dX12_night_80 : decode cX12_night 80 = .ok (.iload 5, 2) := by decide +kernel
theorem dX12_night_82 : decode cX12_night 82 = .ok (.aload_n 0, 1) := by decide +kernel
theorem dX12_night_83 : decode cX12_night 83 = .ok (.invokevirtual 113, 3) := by decide +kernel
theorem dX12_night_86 : decode cX12_night 86 = .ok (.iload_n 3, 1) := by decide +kernel
theorem dX12_night_87 : decode cX12_night 87 = .ok (.if_icmp .ne 7, 3) := by decide +kernel
theorem dX12_night_90 : decode cX12_night 90 = .ok (.iconst 1, 1) := by decide +kernel
theorem dX12_night_91 : decode cX12_night 91 = .ok (.goto 4, 3) := by decide +kernel
theorem dX12_night_94 : decode cX12_night 94 = .ok (.iconst 0, 1) := by decide +kernel
theorem dX12_night_95 : decode cX12_night 95 = .ok (.iadd, 1) := by decide +kernel
theorem dX12_night_96 : decode cX12_night 96 = .ok (.istore 5, 2) := by decide +kernel
theorem dX12_night_98 : decode cX12_night 98 = .ok (.iinc 6 1, 3) := by decide +kernel
theorem dX12_night_101 : decode cX12_night 101 = .ok (.goto (-59), 3) := by decide +kernel
theorem dX12_night_104 : decode cX12_night 104 = .ok (.iload 5, 2) := by decide +kernel
theorem dX12_night_106 : decode cX12_night 106 = .ok (.ireturn, 1) := by decide +kernel
theorem dX12_image_0 : decode cX12_image 0 = .ok (.iload_n 1, 1) := by decide +kernel
theorem dX12_image_1 : decode cX12_image 1 = .ok (.iconst 0, 1) := by decide +kernel
theorem dX12_image_2 : decode cX12_image 2 = .ok (.iconst 1, 1) := by decide +kernel
theorem dX12_image_3 : decode cX12_image 3 = .ok (.invokestatic 66, 3) := by decide +kernel
theorem dX12_image_6 : decode cX12_image 6 = .ok (.ifCond .ne 6, 3) := by decide +kernel
theorem dX12_image_9 : decode cX12_image 9 = .ok (.bipush (-2), 2) := by decide +kernel
theorem dX12_image_11 : decode cX12_image 11 = .ok (.ireturn, 1) := by decide +kernel
theorem dX12_image_12 : decode cX12_image 12 = .ok (.bipush 72, 2) := by decide +kernel
theorem dX12_image_14 : decode cX12_image 14 = .ok (.iload_n 1, 1) := by decide +kernel
theorem dX12_image_15 : decode cX12_image 15 = .ok (.imul, 1) := by decide +kernel
theorem dX12_image_16 : decode cX12_image 16 = .ok (.istore_n 2, 1) := by decide +kernel
theorem dX12_image_17 : decode cX12_image 17 = .ok (.iconst 0, 1) := by decide +kernel
theorem dX12_image_18 : decode cX12_image 18 = .ok (.istore_n 3, 1) := by decide +kernel
theorem dX12_image_19 : decode cX12_image 19 = .ok (.iload_n 3, 1) := by decide +kernel
theorem dX12_image_20 : decode cX12_image 20 = .ok (.bipush 7, 2) := by decide +kernel
theorem dX12_image_22 : decode cX12_image 22 = .ok (.if_icmp .ge 99, 3) := by decide +kernel
theorem dX12_image_25 : decode cX12_image 25 = .ok (.aload_n 0, 1) := by decide +kernel
theorem dX12_image_26 : decode cX12_image 26 = .ok (.getfield 57, 3) := by decide +kernel
theorem dX12_image_29 : decode cX12_image 29 = .ok (.iload_n 2, 1) := by decide +kernel
theorem dX12_image_30 : decode cX12_image 30 = .ok (.iload_n 3, 1) := by decide +kernel
theorem dX12_image_31 : decode cX12_image 31 = .ok (.iadd, 1) := by decide +kernel
theorem dX12_image_32 : decode cX12_image 32 = .ok (.aload_n 0, 1) := by decide +kernel
theorem dX12_image_33 : decode cX12_image 33 = .ok (.getfield 7, 3) := by decide +kernel
theorem dX12_image_36 : decode cX12_image 36 = .ok (.iload_n 3, 1) := by decide +kernel
theorem dX12_image_37 : decode cX12_image 37 = .ok (.iaload, 1) := by decide +kernel
theorem dX12_image_38 : decode cX12_image 38 = .ok (.iastore, 1) := by decide +kernel
theorem dX12_image_39 : decode cX12_image 39 = .ok (.aload_n 0, 1) := by decide +kernel
theorem dX12_image_40 : decode cX12_image 40 = .ok (.getfield 57, 3) := by decide +kernel
theorem dX12_image_43 : decode cX12_image 43 = .ok (.iload_n 2, 1) := by decide +kernel
theorem dX12_image_44 : decode cX12_image 44 = .ok (.bipush 7, 2) := by decide +kernel
theorem dX12_image_46 : decode cX12_image 46 = .ok (.iadd, 1) := by decide +kernel
theorem dX12_image_47 : decode cX12_image 47 = .ok (.iload_n 3, 1) := by decide +kernel
theorem dX12_image_48 : decode cX12_image 48 = .ok (.iadd, 1) := by decide +kernel
theorem dX12_image_49 : decode cX12_image 49 = .ok (.aload_n 0, 1) := by decide +kernel
theorem dX12_image_50 : decode cX12_image 50 = .ok (.getfield 13, 3) := by decide +kernel
theorem dX12_image_53 : decode cX12_image 53 = .ok (.iload_n 3, 1) := by decide +kernel
theorem dX12_image_54 : decode cX12_image 54 = .ok (.iaload, 1) := by decide +kernel
theorem dX12_image_55 : decode cX12_image 55 = .ok (.iastore, 1) := by decide +kernel
theorem dX12_image_56 : decode cX12_image 56 = .ok (.aload_n 0, 1) := by decide +kernel
theorem dX12_image_57 : decode cX12_image 57 = .ok (.getfield 57, 3) := by decide +kernel
theorem dX12_image_60 : decode cX12_image 60 = .ok (.iload_n 2, 1) := by decide +kernel
theorem dX12_image_61 : decode cX12_image 61 = .ok (.bipush 14, 2) := by decide +kernel
theorem dX12_image_63 : decode cX12_image 63 = .ok (.iadd, 1) := by decide +kernel
theorem dX12_image_64 : decode cX12_image 64 = .ok (.iload_n 3, 1) := by decide +kernel
theorem dX12_image_65 : decode cX12_image 65 = .ok (.iadd, 1) := by decide +kernel
theorem dX12_image_66 : decode cX12_image 66 = .ok (.aload_n 0, 1) := by decide +kernel
theorem dX12_image_67 : decode cX12_image 67 = .ok (.getfield 16, 3) := by decide +kernel
theorem dX12_image_70 : decode cX12_image 70 = .ok (.iload_n 3, 1) := by decide +kernel
theorem dX12_image_71 : decode cX12_image 71 = .ok (.baload, 1) := by decide +kernel
theorem dX12_image_72 : decode cX12_image 72 = .ok (.ifCond .eq 7, 3) := by decide +kernel
theorem dX12_image_75 : decode cX12_image 75 = .ok (.iconst 1, 1) := by decide +kernel
theorem dX12_image_76 : decode cX12_image 76 = .ok (.goto 4, 3) := by decide +kernel
theorem dX12_image_79 : decode cX12_image 79 = .ok (.iconst 0, 1) := by decide +kernel
theorem dX12_image_80 : decode cX12_image 80 = .ok (.iastore, 1) := by decide +kernel
theorem dX12_image_81 : decode cX12_image 81 = .ok (.aload_n 0, 1) := by decide +kernel
theorem dX12_image_82 : decode cX12_image 82 = .ok (.getfield 57, 3) := by decide +kernel
theorem dX12_image_85 : decode cX12_image 85 = .ok (.iload_n 2, 1) := by decide +kernel
theorem dX12_image_86 : decode cX12_image 86 = .ok (.bipush 21, 2) := by decide +kernel
theorem dX12_image_88 : decode cX12_image 88 = .ok (.iadd, 1) := by decide +kernel
theorem dX12_image_89 : decode cX12_image 89 = .ok (.iload_n 3, 1) := by decide +kernel
theorem dX12_image_90 : decode cX12_image 90 = .ok (.iadd, 1) := by decide +kernel
theorem dX12_image_91 : decode cX12_image 91 = .ok (.aload_n 0, 1) := by decide +kernel
theorem dX12_image_92 : decode cX12_image 92 = .ok (.getfield 20, 3) := by decide +kernel
theorem dX12_image_95 : decode cX12_image 95 = .ok (.iload_n 3, 1) := by decide +kernel
theorem dX12_image_96 : decode cX12_image 96 = .ok (.iaload, 1) := by decide +kernel
theorem dX12_image_97 : decode cX12_image 97 = .ok (.iastore, 1) := by decide +kernel
theorem dX12_image_98 : decode cX12_image 98 = .ok (.aload_n 0, 1) := by decide +kernel
theorem dX12_image_99 : decode cX12_image 99 = .ok (.getfield 57, 3) := by decide +kernel
theorem dX12_image_102 : decode cX12_image 102 = .ok (.iload_n 2, 1) := by decide +kernel
theorem dX12_image_103 : decode cX12_image 103 = .ok (.bipush 28, 2) := by decide +kernel
theorem dX12_image_105 : decode cX12_image 105 = .ok (.iadd, 1) := by decide +kernel
theorem dX12_image_106 : decode cX12_image 106 = .ok (.iload_n 3, 1) := by decide +kernel
theorem dX12_image_107 : decode cX12_image 107 = .ok (.iadd, 1) := by decide +kernel
theorem dX12_image_108 : decode cX12_image 108 = .ok (.aload_n 0, 1) := by decide +kernel
theorem dX12_image_109 : decode cX12_image 109 = .ok (.getfield 23, 3) := by decide +kernel
theorem dX12_image_112 : decode cX12_image 112 = .ok (.iload_n 3, 1) := by decide +kernel
theorem dX12_image_113 : decode cX12_image 113 = .ok (.iaload, 1) := by decide +kernel
theorem dX12_image_114 : decode cX12_image 114 = .ok (.iastore, 1) := by decide +kernel
theorem dX12_image_115 : decode cX12_image 115 = .ok (.iinc 3 1, 3) := by decide +kernel
theorem dX12_image_118 : decode cX12_image 118 = .ok (.goto (-99), 3) := by decide +kernel
theorem dX12_image_121 : decode cX12_image 121 = .ok (.iconst 0, 1) := by decide +kernel
theorem dX12_image_122 : decode cX12_image 122 = .ok (.istore_n 3, 1) := by decide +kernel
theorem dX12_image_123 : decode cX12_image 123 = .ok (.iload_n 3, 1) := by decide +kernel
theorem dX12_image_124 : decode cX12_image 124 = .ok (.bipush 18, 2) := by decide +kernel
theorem dX12_image_126 : decode cX12_image 126 = .ok (.if_icmp .ge 26, 3) := by decide +kernel
theorem dX12_image_129 : decode cX12_image 129 = .ok (.aload_n 0, 1) := by decide +kernel
theorem dX12_image_130 : decode cX12_image 130 = .ok (.getfield 57, 3) := by decide +kernel
theorem dX12_image_133 : decode cX12_image 133 = .ok (.iload_n 2, 1) := by decide +kernel
theorem dX12_image_134 : decode cX12_image 134 = .ok (.bipush 35, 2) := by decide +kernel
theorem dX12_image_136 : decode cX12_image 136 = .ok (.iadd, 1) := by decide +kernel
theorem dX12_image_137 : decode cX12_image 137 = .ok (.iload_n 3, 1) := by decide +kernel
theorem dX12_image_138 : decode cX12_image 138 = .ok (.iadd, 1) := by decide +kernel
theorem dX12_image_139 : decode cX12_image 139 = .ok (.aload_n 0, 1) := by decide +kernel
theorem dX12_image_140 : decode cX12_image 140 = .ok (.getfield 30, 3) := by decide +kernel
theorem dX12_image_143 : decode cX12_image 143 = .ok (.iload_n 3, 1) := by decide +kernel
theorem dX12_image_144 : decode cX12_image 144 = .ok (.iaload, 1) := by decide +kernel
theorem dX12_image_145 : decode cX12_image 145 = .ok (.iastore, 1) := by decide +kernel
theorem dX12_image_146 : decode cX12_image 146 = .ok (.iinc 3 1, 3) := by decide +kernel
theorem dX12_image_149 : decode cX12_image 149 = .ok (.goto (-26), 3) := by decide +kernel
theorem dX12_image_152 : decode cX12_image 152 = .ok (.iconst 0, 1) := by decide +kernel
theorem dX12_image_153 : decode cX12_image 153 = .ok (.istore_n 3, 1) := by decide +kernel
theorem dX12_image_154 : decode cX12_image 154 = .ok (.iload_n 3, 1) := by decide +kernel
theorem dX12_image_155 : decode cX12_image 155 = .ok (.bipush 15, 2) := by decide +kernel
theorem dX12_image_157 : decode cX12_image 157 = .ok (.if_icmp .ge 26, 3) := by decide +kernel
theorem dX12_image_160 : decode cX12_image 160 = .ok (.aload_n 0, 1) := by decide +kernel
theorem dX12_image_161 : decode cX12_image 161 = .ok (.getfield 57, 3) := by decide +kernel
theorem dX12_image_164 : decode cX12_image 164 = .ok (.iload_n 2, 1) := by decide +kernel
theorem dX12_image_165 : decode cX12_image 165 = .ok (.bipush 53, 2) := by decide +kernel
theorem dX12_image_167 : decode cX12_image 167 = .ok (.iadd, 1) := by decide +kernel
theorem dX12_image_168 : decode cX12_image 168 = .ok (.iload_n 3, 1) := by decide +kernel
theorem dX12_image_169 : decode cX12_image 169 = .ok (.iadd, 1) := by decide +kernel
theorem dX12_image_170 : decode cX12_image 170 = .ok (.aload_n 0, 1) := by decide +kernel
theorem dX12_image_171 : decode cX12_image 171 = .ok (.getfield 33, 3) := by decide +kernel
theorem dX12_image_174 : decode cX12_image 174 = .ok (.iload_n 3, 1) := by decide +kernel
theorem dX12_image_175 : decode cX12_image 175 = .ok (.iaload, 1) := by decide +kernel
theorem dX12_image_176 : decode cX12_image 176 = .ok (.iastore, 1) := by decide +kernel
theorem dX12_image_177 : decode cX12_image 177 = .ok (.iinc 3 1, 3) := by decide +kernel
theorem dX12_image_180 : decode cX12_image 180 = .ok (.goto (-26), 3) := by decide +kernel
theorem dX12_image_183 : decode cX12_image 183 = .ok (.aload_n 0, 1) := by decide +kernel
theorem dX12_image_184 : decode cX12_image 184 = .ok (.getfield 57, 3) := by decide +kernel
theorem dX12_image_187 : decode cX12_image 187 = .ok (.iload_n 2, 1) := by decide +kernel
theorem dX12_image_188 : decode cX12_image 188 = .ok (.bipush 68, 2) := by decide +kernel
theorem dX12_image_190 : decode cX12_image 190 = .ok (.iadd, 1) := by decide +kernel
theorem dX12_image_191 : decode cX12_image 191 = .ok (.aload_n 0, 1) := by decide +kernel
theorem dX12_image_192 : decode cX12_image 192 = .ok (.getfield 63, 3) := by decide +kernel
theorem dX12_image_195 : decode cX12_image 195 = .ok (.iastore, 1) := by decide +kernel
theorem dX12_image_196 : decode cX12_image 196 = .ok (.aload_n 0, 1) := by decide +kernel
theorem dX12_image_197 : decode cX12_image 197 = .ok (.getfield 57, 3) := by decide +kernel
theorem dX12_image_200 : decode cX12_image 200 = .ok (.iload_n 2, 1) := by decide +kernel
theorem dX12_image_201 : decode cX12_image 201 = .ok (.bipush 69, 2) := by decide +kernel
theorem dX12_image_203 : decode cX12_image 203 = .ok (.iadd, 1) := by decide +kernel
theorem dX12_image_204 : decode cX12_image 204 = .ok (.aload_n 0, 1) := by decide +kernel
theorem dX12_image_205 : decode cX12_image 205 = .ok (.getfield 77, 3) := by decide +kernel
theorem dX12_image_208 : decode cX12_image 208 = .ok (.iastore, 1) := by decide +kernel
theorem dX12_image_209 : decode cX12_image 209 = .ok (.aload_n 0, 1) := by decide +kernel
theorem dX12_image_210 : decode cX12_image 210 = .ok (.getfield 57, 3) := by decide +kernel
theorem dX12_image_213 : decode cX12_image 213 = .ok (.iload_n 2, 1) := by decide +kernel
theorem dX12_image_214 : decode cX12_image 214 = .ok (.bipush 70, 2) := by decide +kernel
theorem dX12_image_216 : decode cX12_image 216 = .ok (.iadd, 1) := by decide +kernel
theorem dX12_image_217 : decode cX12_image 217 = .ok (.aload_n 0, 1) := by decide +kernel
theorem dX12_image_218 : decode cX12_image 218 = .ok (.getfield 165, 3) := by decide +kernel
theorem dX12_image_221 : decode cX12_image 221 = .ok (.iastore, 1) := by decide +kernel
theorem dX12_image_222 : decode cX12_image 222 = .ok (.aload_n 0, 1) := by decide +kernel
theorem dX12_image_223 : decode cX12_image 223 = .ok (.getfield 57, 3) := by decide +kernel
theorem dX12_image_226 : decode cX12_image 226 = .ok (.iload_n 2, 1) := by decide +kernel
theorem dX12_image_227 : decode cX12_image 227 = .ok (.bipush 71, 2) := by decide +kernel
theorem dX12_image_229 : decode cX12_image 229 = .ok (.iadd, 1) := by decide +kernel
theorem dX12_image_230 : decode cX12_image 230 = .ok (.aload_n 0, 1) := by decide +kernel
theorem dX12_image_231 : decode cX12_image 231 = .ok (.getfield 26, 3) := by decide +kernel
theorem dX12_image_234 : decode cX12_image 234 = .ok (.iastore, 1) := by decide +kernel
theorem dX12_image_235 : decode cX12_image 235 = .ok (.aload_n 0, 1) := by decide +kernel
theorem dX12_image_236 : decode cX12_image 236 = .ok (.getfield 60, 3) := by decide +kernel
theorem dX12_image_239 : decode cX12_image 239 = .ok (.iload_n 1, 1) := by decide +kernel
theorem dX12_image_240 : decode cX12_image 240 = .ok (.iconst 1, 1) := by decide +kernel
theorem dX12_image_241 : decode cX12_image 241 = .ok (.bastore, 1) := by decide +kernel
theorem dX12_image_242 : decode cX12_image 242 = .ok (.iconst 1, 1) := by decide +kernel
theorem dX12_image_243 : decode cX12_image 243 = .ok (.ireturn, 1) := by decide +kernel
theorem dX12_restore_0 : decode cX12_restore 0 = .ok (.iload_n 1, 1) := by decide +kernel
theorem dX12_restore_1 : decode cX12_restore 1 = .ok (.iconst 0, 1) := by decide +kernel
theorem dX12_restore_2 : decode cX12_restore 2 = .ok (.iconst 1, 1) := by decide +kernel
theorem dX12_restore_3 : decode cX12_restore 3 = .ok (.invokestatic 66, 3) := by decide +kernel
theorem dX12_restore_6 : decode cX12_restore 6 = .ok (.ifCond .ne 6, 3) := by decide +kernel
theorem dX12_restore_9 : decode cX12_restore 9 = .ok (.bipush (-2), 2) := by decide +kernel
theorem dX12_restore_11 : decode cX12_restore 11 = .ok (.ireturn, 1) := by decide +kernel
theorem dX12_restore_12 : decode cX12_restore 12 = .ok (.aload_n 0, 1) := by decide +kernel
theorem dX12_restore_13 : decode cX12_restore 13 = .ok (.getfield 60, 3) := by decide +kernel
theorem dX12_restore_16 : decode cX12_restore 16 = .ok (.iload_n 1, 1) := by decide +kernel
theorem dX12_restore_17 : decode cX12_restore 17 = .ok (.baload, 1) := by decide +kernel
theorem dX12_restore_18 : decode cX12_restore 18 = .ok (.ifCond .ne 6, 3) := by decide +kernel
theorem dX12_restore_21 : decode cX12_restore 21 = .ok (.bipush (-3), 2) := by decide +kernel
theorem dX12_restore_23 : decode cX12_restore 23 = .ok (.ireturn, 1) := by decide +kernel
theorem dX12_restore_24 : decode cX12_restore 24 = .ok (.bipush 72, 2) := by decide +kernel
theorem dX12_restore_26 : decode cX12_restore 26 = .ok (.iload_n 1, 1) := by decide +kernel
theorem dX12_restore_27 : decode cX12_restore 27 = .ok (.imul, 1) := by decide +kernel
theorem dX12_restore_28 : decode cX12_restore 28 = .ok (.istore_n 2, 1) := by decide +kernel
theorem dX12_restore_29 : decode cX12_restore 29 = .ok (.iconst 0, 1) := by decide +kernel
theorem dX12_restore_30 : decode cX12_restore 30 = .ok (.istore_n 3, 1) := by decide +kernel
theorem dX12_restore_31 : decode cX12_restore 31 = .ok (.iload_n 3, 1) := by decide +kernel
theorem dX12_restore_32 : decode cX12_restore 32 = .ok (.bipush 7, 2) := by decide +kernel
theorem dX12_restore_34 : decode cX12_restore 34 = .ok (.if_icmp .ge 100, 3) := by decide +kernel
theorem dX12_restore_37 : decode cX12_restore 37 = .ok (.aload_n 0, 1) := by decide +kernel
theorem dX12_restore_38 : decode cX12_restore 38 = .ok (.getfield 7, 3) := by decide +kernel
theorem dX12_restore_41 : decode cX12_restore 41 = .ok (.iload_n 3, 1) := by decide +kernel
theorem dX12_restore_42 : decode cX12_restore 42 = .ok (.aload_n 0, 1) := by decide +kernel
theorem dX12_restore_43 : decode cX12_restore 43 = .ok (.getfield 57, 3) := by decide +kernel
theorem dX12_restore_46 : decode cX12_restore 46 = .ok (.iload_n 2, 1) := by decide +kernel
theorem dX12_restore_47 : decode cX12_restore 47 = .ok (.iload_n 3, 1) := by decide +kernel
theorem dX12_restore_48 : decode cX12_restore 48 = .ok (.iadd, 1) := by decide +kernel
theorem dX12_restore_49 : decode cX12_restore 49 = .ok (.iaload, 1) := by decide +kernel
theorem dX12_restore_50 : decode cX12_restore 50 = .ok (.iastore, 1) := by decide +kernel
theorem dX12_restore_51 : decode cX12_restore 51 = .ok (.aload_n 0, 1) := by decide +kernel
theorem dX12_restore_52 : decode cX12_restore 52 = .ok (.getfield 13, 3) := by decide +kernel
theorem dX12_restore_55 : decode cX12_restore 55 = .ok (.iload_n 3, 1) := by decide +kernel
theorem dX12_restore_56 : decode cX12_restore 56 = .ok (.aload_n 0, 1) := by decide +kernel
theorem dX12_restore_57 : decode cX12_restore 57 = .ok (.getfield 57, 3) := by decide +kernel
theorem dX12_restore_60 : decode cX12_restore 60 = .ok (.iload_n 2, 1) := by decide +kernel
theorem dX12_restore_61 : decode cX12_restore 61 = .ok (.bipush 7, 2) := by decide +kernel
theorem dX12_restore_63 : decode cX12_restore 63 = .ok (.iadd, 1) := by decide +kernel
theorem dX12_restore_64 : decode cX12_restore 64 = .ok (.iload_n 3, 1) := by decide +kernel
theorem dX12_restore_65 : decode cX12_restore 65 = .ok (.iadd, 1) := by decide +kernel
theorem dX12_restore_66 : decode cX12_restore 66 = .ok (.iaload, 1) := by decide +kernel
theorem dX12_restore_67 : decode cX12_restore 67 = .ok (.iastore, 1) := by decide +kernel
theorem dX12_restore_68 : decode cX12_restore 68 = .ok (.aload_n 0, 1) := by decide +kernel
theorem dX12_restore_69 : decode cX12_restore 69 = .ok (.getfield 16, 3) := by decide +kernel
theorem dX12_restore_72 : decode cX12_restore 72 = .ok (.iload_n 3, 1) := by decide +kernel
theorem dX12_restore_73 : decode cX12_restore 73 = .ok (.aload_n 0, 1) := by decide +kernel
theorem dX12_restore_74 : decode cX12_restore 74 = .ok (.getfield 57, 3) := by decide +kernel
theorem dX12_restore_77 : decode cX12_restore 77 = .ok (.iload_n 2, 1) := by decide +kernel
theorem dX12_restore_78 : decode cX12_restore 78 = .ok (.bipush 14, 2) := by decide +kernel
theorem dX12_restore_80 : decode cX12_restore 80 = .ok (.iadd, 1) := by decide +kernel
theorem dX12_restore_81 : decode cX12_restore 81 = .ok (.iload_n 3, 1) := by decide +kernel
theorem dX12_restore_82 : decode cX12_restore 82 = .ok (.iadd, 1) := by decide +kernel
theorem dX12_restore_83 : decode cX12_restore 83 = .ok (.iaload, 1) := by decide +kernel
theorem dX12_restore_84 : decode cX12_restore 84 = .ok (.iconst 1, 1) := by decide +kernel
theorem dX12_restore_85 : decode cX12_restore 85 = .ok (.if_icmp .ne 7, 3) := by decide +kernel
theorem dX12_restore_88 : decode cX12_restore 88 = .ok (.iconst 1, 1) := by decide +kernel
theorem dX12_restore_89 : decode cX12_restore 89 = .ok (.goto 4, 3) := by decide +kernel
theorem dX12_restore_92 : decode cX12_restore 92 = .ok (.iconst 0, 1) := by decide +kernel
theorem dX12_restore_93 : decode cX12_restore 93 = .ok (.bastore, 1) := by decide +kernel
theorem dX12_restore_94 : decode cX12_restore 94 = .ok (.aload_n 0, 1) := by decide +kernel
theorem dX12_restore_95 : decode cX12_restore 95 = .ok (.getfield 20, 3) := by decide +kernel
theorem dX12_restore_98 : decode cX12_restore 98 = .ok (.iload_n 3, 1) := by decide +kernel
theorem dX12_restore_99 : decode cX12_restore 99 = .ok (.aload_n 0, 1) := by decide +kernel
theorem dX12_restore_100 : decode cX12_restore 100 = .ok (.getfield 57, 3) := by decide +kernel
theorem dX12_restore_103 : decode cX12_restore 103 = .ok (.iload_n 2, 1) := by decide +kernel
theorem dX12_restore_104 : decode cX12_restore 104 = .ok (.bipush 21, 2) := by decide +kernel
theorem dX12_restore_106 : decode cX12_restore 106 = .ok (.iadd, 1) := by decide +kernel
theorem dX12_restore_107 : decode cX12_restore 107 = .ok (.iload_n 3, 1) := by decide +kernel
theorem dX12_restore_108 : decode cX12_restore 108 = .ok (.iadd, 1) := by decide +kernel
theorem dX12_restore_109 : decode cX12_restore 109 = .ok (.iaload, 1) := by decide +kernel
theorem dX12_restore_110 : decode cX12_restore 110 = .ok (.iastore, 1) := by decide +kernel
theorem dX12_restore_111 : decode cX12_restore 111 = .ok (.aload_n 0, 1) := by decide +kernel
theorem dX12_restore_112 : decode cX12_restore 112 = .ok (.getfield 23, 3) := by decide +kernel
theorem dX12_restore_115 : decode cX12_restore 115 = .ok (.iload_n 3, 1) := by decide +kernel
theorem dX12_restore_116 : decode cX12_restore 116 = .ok (.aload_n 0, 1) := by decide +kernel
theorem dX12_restore_117 : decode cX12_restore 117 = .ok (.getfield 57, 3) := by decide +kernel
theorem dX12_restore_120 : decode cX12_restore 120 = .ok (.iload_n 2, 1) := by decide +kernel
theorem dX12_restore_121 : decode cX12_restore 121 = .ok (.bipush 28, 2) := by decide +kernel
theorem dX12_restore_123 : decode cX12_restore 123 = .ok (.iadd, 1) := by decide +kernel
theorem dX12_restore_124 : decode cX12_restore 124 = .ok (.iload_n 3, 1) := by decide +kernel
theorem dX12_restore_125 : decode cX12_restore 125 = .ok (.iadd, 1) := by decide +kernel
theorem dX12_restore_126 : decode cX12_restore 126 = .ok (.iaload, 1) := by decide +kernel
theorem dX12_restore_127 : decode cX12_restore 127 = .ok (.iastore, 1) := by decide +kernel
theorem dX12_restore_128 : decode cX12_restore 128 = .ok (.iinc 3 1, 3) := by decide +kernel
theorem dX12_restore_131 : decode cX12_restore 131 = .ok (.goto (-100), 3) := by decide +kernel
theorem dX12_restore_134 : decode cX12_restore 134 = .ok (.iconst 0, 1) := by decide +kernel
theorem dX12_restore_135 : decode cX12_restore 135 = .ok (.istore_n 3, 1) := by decide +kernel
theorem dX12_restore_136 : decode cX12_restore 136 = .ok (.iload_n 3, 1) := by decide +kernel
theorem dX12_restore_137 : decode cX12_restore 137 = .ok (.bipush 18, 2) := by decide +kernel
theorem dX12_restore_139 : decode cX12_restore 139 = .ok (.if_icmp .ge 26, 3) := by decide +kernel
theorem dX12_restore_142 : decode cX12_restore 142 = .ok (.aload_n 0, 1) := by decide +kernel
theorem dX12_restore_143 : decode cX12_restore 143 = .ok (.getfield 30, 3) := by decide +kernel
theorem dX12_restore_146 : decode cX12_restore 146 = .ok (.iload_n 3, 1) := by decide +kernel
theorem dX12_restore_147 : decode cX12_restore 147 = .ok (.aload_n 0, 1) := by decide +kernel
theorem dX12_restore_148 : decode cX12_restore 148 = .ok (.getfield 57, 3) := by decide +kernel
theorem dX12_restore_151 : decode cX12_restore 151 = .ok (.iload_n 2, 1) := by decide +kernel
theorem dX12_restore_152 : decode cX12_restore 152 = .ok (.bipush 35, 2) := by decide +kernel
theorem dX12_restore_154 : decode cX12_restore 154 = .ok (.iadd, 1) := by decide +kernel
theorem dX12_restore_155 : decode cX12_restore 155 = .ok (.iload_n 3, 1) := by decide +kernel
theorem dX12_restore_156 : decode cX12_restore 156 = .ok (.iadd, 1) := by decide +kernel
theorem dX12_restore_157 : decode cX12_restore 157 = .ok (.iaload, 1) := by decide +kernel
theorem dX12_restore_158 : decode cX12_restore 158 = .ok (.iastore, 1) := by decide +kernel
theorem dX12_restore_159 : decode cX12_restore 159 = .ok (.iinc 3 1, 3) := by decide +kernel
theorem dX12_restore_162 : decode cX12_restore 162 = .ok (.goto (-26), 3) := by decide +kernel
theorem dX12_restore_165 : decode cX12_restore 165 = .ok (.iconst 0, 1) := by decide +kernel
theorem dX12_restore_166 : decode cX12_restore 166 = .ok (.istore_n 3, 1) := by decide +kernel
theorem dX12_restore_167 : decode cX12_restore 167 = .ok (.iload_n 3, 1) := by decide +kernel
theorem dX12_restore_168 : decode cX12_restore 168 = .ok (.bipush 15, 2) := by decide +kernel
theorem dX12_restore_170 : decode cX12_restore 170 = .ok (.if_icmp .ge 26, 3) := by decide +kernel
theorem dX12_restore_173 : decode cX12_restore 173 = .ok (.aload_n 0, 1) := by decide +kernel
theorem dX12_restore_174 : decode cX12_restore 174 = .ok (.getfield 33, 3) := by decide +kernel
theorem dX12_restore_177 : decode cX12_restore 177 = .ok (.iload_n 3, 1) := by decide +kernel
theorem dX12_restore_178 : decode cX12_restore 178 = .ok (.aload_n 0, 1) := by decide +kernel
theorem dX12_restore_179 : decode cX12_restore 179 = .ok (.getfield 57, 3) := by decide +kernel
theorem dX12_restore_182 : decode cX12_restore 182 = .ok (.iload_n 2, 1) := by decide +kernel
theorem dX12_restore_183 : decode cX12_restore 183 = .ok (.bipush 53, 2) := by decide +kernel
theorem dX12_restore_185 : decode cX12_restore 185 = .ok (.iadd, 1) := by decide +kernel
theorem dX12_restore_186 : decode cX12_restore 186 = .ok (.iload_n 3, 1) := by decide +kernel
theorem dX12_restore_187 : decode cX12_restore 187 = .ok (.iadd, 1) := by decide +kernel
theorem dX12_restore_188 : decode cX12_restore 188 = .ok (.iaload, 1) := by decide +kernel
theorem dX12_restore_189 : decode cX12_restore 189 = .ok (.iastore, 1) := by decide +kernel
theorem dX12_restore_190 : decode cX12_restore 190 = .ok (.iinc 3 1, 3) := by decide +kernel
theorem dX12_restore_193 : decode cX12_restore 193 = .ok (.goto (-26), 3) := by decide +kernel
theorem dX12_restore_196 : decode cX12_restore 196 = .ok (.aload_n 0, 1) := by decide +kernel
theorem dX12_restore_197 : decode cX12_restore 197 = .ok (.aload_n 0, 1) := by decide +kernel
theorem dX12_restore_198 : decode cX12_restore 198 = .ok (.getfield 57, 3) := by decide +kernel
theorem dX12_restore_201 : decode cX12_restore 201 = .ok (.iload_n 2, 1) := by decide +kernel
theorem dX12_restore_202 : decode cX12_restore 202 = .ok (.bipush 68, 2) := by decide +kernel
theorem dX12_restore_204 : decode cX12_restore 204 = .ok (.iadd, 1) := by decide +kernel
theorem dX12_restore_205 : decode cX12_restore 205 = .ok (.iaload, 1) := by decide +kernel
theorem dX12_restore_206 : decode cX12_restore 206 = .ok (.putfield 63, 3) := by decide +kernel
theorem dX12_restore_209 : decode cX12_restore 209 = .ok (.aload_n 0, 1) := by decide +kernel
theorem dX12_restore_210 : decode cX12_restore 210 = .ok (.aload_n 0, 1) := by decide +kernel
theorem dX12_restore_211 : decode cX12_restore 211 = .ok (.getfield 57, 3) := by decide +kernel
theorem dX12_restore_214 : decode cX12_restore 214 = .ok (.iload_n 2, 1) := by decide +kernel
theorem dX12_restore_215 : decode cX12_restore 215 = .ok (.bipush 69, 2) := by decide +kernel
theorem dX12_restore_217 : decode cX12_restore 217 = .ok (.iadd, 1) := by decide +kernel
theorem dX12_restore_218 : decode cX12_restore 218 = .ok (.iaload, 1) := by decide +kernel
theorem dX12_restore_219 : decode cX12_restore 219 = .ok (.putfield 77, 3) := by decide +kernel
theorem dX12_restore_222 : decode cX12_restore 222 = .ok (.aload_n 0, 1) := by decide +kernel
theorem dX12_restore_223 : decode cX12_restore 223 = .ok (.aload_n 0, 1) := by decide +kernel
theorem dX12_restore_224 : decode cX12_restore 224 = .ok (.getfield 57, 3) := by decide +kernel
theorem dX12_restore_227 : decode cX12_restore 227 = .ok (.iload_n 2, 1) := by decide +kernel
theorem dX12_restore_228 : decode cX12_restore 228 = .ok (.bipush 70, 2) := by decide +kernel
theorem dX12_restore_230 : decode cX12_restore 230 = .ok (.iadd, 1) := by decide +kernel
theorem dX12_restore_231 : decode cX12_restore 231 = .ok (.iaload, 1) := by decide +kernel
theorem dX12_restore_232 : decode cX12_restore 232 = .ok (.putfield 165, 3) := by decide +kernel
theorem dX12_restore_235 : decode cX12_restore 235 = .ok (.aload_n 0, 1) := by decide +kernel
theorem dX12_restore_236 : decode cX12_restore 236 = .ok (.aload_n 0, 1) := by decide +kernel
theorem dX12_restore_237 : decode cX12_restore 237 = .ok (.getfield 57, 3) := by decide +kernel
theorem dX12_restore_240 : decode cX12_restore 240 = .ok (.iload_n 2, 1) := by decide +kernel
theorem dX12_restore_241 : decode cX12_restore 241 = .ok (.bipush 71, 2) := by decide +kernel
theorem dX12_restore_243 : decode cX12_restore 243 = .ok (.iadd, 1) := by decide +kernel
theorem dX12_restore_244 : decode cX12_restore 244 = .ok (.iaload, 1) := by decide +kernel
theorem dX12_restore_245 : decode cX12_restore 245 = .ok (.putfield 26, 3) := by decide +kernel
theorem dX12_restore_248 : decode cX12_restore 248 = .ok (.iconst 1, 1) := by decide +kernel
theorem dX12_restore_249 : decode cX12_restore 249 = .ok (.ireturn, 1) := by decide +kernel
theorem dX12_told_0 : decode cX12_told 0 = .ok (.iload_n 1, 1) := by decide +kernel
theorem dX12_told_1 : decode cX12_told 1 = .ok (.bipush 10, 2) := by decide +kernel
theorem dX12_told_3 : decode cX12_told 3 = .ok (.bipush 16, 2) := by decide +kernel
theorem dX12_told_5 : decode cX12_told 5 = .ok (.invokestatic 66, 3) := by decide +kernel
theorem dX12_told_8 : decode cX12_told 8 = .ok (.ifCond .eq 29, 3) := by decide +kernel
theorem dX12_told_11 : decode cX12_told 11 = .ok (.aload_n 0, 1) := by decide +kernel
theorem dX12_told_12 : decode cX12_told 12 = .ok (.iload_n 1, 1) := by decide +kernel
theorem dX12_told_13 : decode cX12_told 13 = .ok (.bipush 10, 2) := by decide +kernel
theorem dX12_told_15 : decode cX12_told 15 = .ok (.isub, 1) := by decide +kernel
theorem dX12_told_16 : decode cX12_told 16 = .ok (.invokevirtual 80, 3) := by decide +kernel
theorem dX12_told_19 : decode cX12_told 19 = .ok (.ifCond .eq 15, 3) := by decide +kernel
theorem dX12_told_22 : decode cX12_told 22 = .ok (.aload_n 0, 1) := by decide +kernel
theorem dX12_told_23 : decode cX12_told 23 = .ok (.getfield 23, 3) := by decide +kernel
theorem dX12_told_26 : decode cX12_told 26 = .ok (.iload_n 1, 1) := by decide +kernel
theorem dX12_told_27 : decode cX12_told 27 = .ok (.bipush 10, 2) := by decide +kernel
theorem dX12_told_29 : decode cX12_told 29 = .ok (.isub, 1) := by decide +kernel
theorem dX12_told_30 : decode cX12_told 30 = .ok (.iaload, 1) := by decide +kernel
theorem dX12_told_31 : decode cX12_told 31 = .ok (.goto 5, 3) := by decide +kernel
theorem dX12_told_34 : decode cX12_told 34 = .ok (.bipush (-2), 2) := by decide +kernel
theorem dX12_told_36 : decode cX12_told 36 = .ok (.ireturn, 1) := by decide +kernel
theorem dX12_told_37 : decode cX12_told 37 = .ok (.iload_n 1, 1) := by decide +kernel
theorem dX12_told_38 : decode cX12_told 38 = .ok (.tableswitch 59 0 4 #[34, 39, 44, 49, 54], 34) := by decide +kernel
theorem dX12_told_72 : decode cX12_told 72 = .ok (.aload_n 0, 1) := by decide +kernel
theorem dX12_told_73 : decode cX12_told 73 = .ok (.getfield 70, 3) := by decide +kernel
theorem dX12_told_76 : decode cX12_told 76 = .ok (.ireturn, 1) := by decide +kernel
theorem dX12_told_77 : decode cX12_told 77 = .ok (.aload_n 0, 1) := by decide +kernel
theorem dX12_told_78 : decode cX12_told 78 = .ok (.getfield 63, 3) := by decide +kernel
theorem dX12_told_81 : decode cX12_told 81 = .ok (.ireturn, 1) := by decide +kernel
theorem dX12_told_82 : decode cX12_told 82 = .ok (.aload_n 0, 1) := by decide +kernel
theorem dX12_told_83 : decode cX12_told 83 = .ok (.getfield 26, 3) := by decide +kernel
theorem dX12_told_86 : decode cX12_told 86 = .ok (.ireturn, 1) := by decide +kernel
theorem dX12_told_87 : decode cX12_told 87 = .ok (.aload_n 0, 1) := by decide +kernel
theorem dX12_told_88 : decode cX12_told 88 = .ok (.getfield 77, 3) := by decide +kernel
theorem dX12_told_91 : decode cX12_told 91 = .ok (.ireturn, 1) := by decide +kernel
theorem dX12_told_92 : decode cX12_told 92 = .ok (.aload_n 0, 1) := by decide +kernel
theorem dX12_told_93 : decode cX12_told 93 = .ok (.getfield 165, 3) := by decide +kernel
theorem dX12_told_96 : decode cX12_told 96 = .ok (.ireturn, 1) := by decide +kernel
theorem dX12_told_97 : decode cX12_told 97 = .ok (.iload_n 1, 1) := by decide +kernel
theorem dX12_told_98 : decode cX12_told 98 = .ok (.iconst 5, 1) := by decide +kernel
theorem dX12_told_99 : decode cX12_told 99 = .ok (.if_icmp .ne 10, 3) := by decide +kernel
theorem dX12_told_102 : decode cX12_told 102 = .ok (.aload_n 0, 1) := by decide +kernel
theorem dX12_told_103 : decode cX12_told 103 = .ok (.invokevirtual 153, 3) := by decide +kernel
theorem dX12_told_106 : decode cX12_told 106 = .ok (.goto 5, 3) := by decide +kernel
theorem dX12_told_109 : decode cX12_told 109 = .ok (.bipush (-2), 2) := by decide +kernel
theorem dX12_told_111 : decode cX12_told 111 = .ok (.ireturn, 1) := by decide +kernel
