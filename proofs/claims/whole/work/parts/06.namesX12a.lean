theorem dX12_init_0 : decode cX12_init 0 = .ok (.aload_n 0, 1) := by decide +kernel
theorem dX12_init_1 : decode cX12_init 1 = .ok (.invokespecial 1, 3) := by decide +kernel
theorem dX12_init_4 : decode cX12_init 4 = .ok (.aload_n 0, 1) := by decide +kernel
theorem dX12_init_5 : decode cX12_init 5 = .ok (.bipush 122, 2) := by decide +kernel
theorem dX12_init_7 : decode cX12_init 7 = .ok (.newarray .int, 2) := by decide +kernel
theorem dX12_init_9 : decode cX12_init 9 = .ok (.putfield 7, 3) := by decide +kernel
theorem dX12_init_12 : decode cX12_init 12 = .ok (.aload_n 0, 1) := by decide +kernel
theorem dX12_init_13 : decode cX12_init 13 = .ok (.sipush 488, 3) := by decide +kernel
theorem dX12_init_16 : decode cX12_init 16 = .ok (.newarray .int, 2) := by decide +kernel
theorem dX12_init_18 : decode cX12_init 18 = .ok (.putfield 13, 3) := by decide +kernel
theorem dX12_init_21 : decode cX12_init 21 = .ok (.aload_n 0, 1) := by decide +kernel
theorem dX12_init_22 : decode cX12_init 22 = .ok (.bipush 122, 2) := by decide +kernel
theorem dX12_init_24 : decode cX12_init 24 = .ok (.newarray .int, 2) := by decide +kernel
theorem dX12_init_26 : decode cX12_init 26 = .ok (.putfield 16, 3) := by decide +kernel
theorem dX12_init_29 : decode cX12_init 29 = .ok (.aload_n 0, 1) := by decide +kernel
theorem dX12_init_30 : decode cX12_init 30 = .ok (.sipush 150, 3) := by decide +kernel
theorem dX12_init_33 : decode cX12_init 33 = .ok (.newarray .int, 2) := by decide +kernel
theorem dX12_init_35 : decode cX12_init 35 = .ok (.putfield 19, 3) := by decide +kernel
theorem dX12_init_38 : decode cX12_init 38 = .ok (.aload_n 0, 1) := by decide +kernel
theorem dX12_init_39 : decode cX12_init 39 = .ok (.bipush 17, 2) := by decide +kernel
theorem dX12_init_41 : decode cX12_init 41 = .ok (.newarray .int, 2) := by decide +kernel
theorem dX12_init_43 : decode cX12_init 43 = .ok (.putfield 22, 3) := by decide +kernel
theorem dX12_init_46 : decode cX12_init 46 = .ok (.aload_n 0, 1) := by decide +kernel
theorem dX12_init_47 : decode cX12_init 47 = .ok (.bipush 17, 2) := by decide +kernel
theorem dX12_init_49 : decode cX12_init 49 = .ok (.newarray .int, 2) := by decide +kernel
theorem dX12_init_51 : decode cX12_init 51 = .ok (.putfield 25, 3) := by decide +kernel
theorem dX12_init_54 : decode cX12_init 54 = .ok (.aload_n 0, 1) := by decide +kernel
theorem dX12_init_55 : decode cX12_init 55 = .ok (.bipush 17, 2) := by decide +kernel
theorem dX12_init_57 : decode cX12_init 57 = .ok (.newarray .int, 2) := by decide +kernel
theorem dX12_init_59 : decode cX12_init 59 = .ok (.putfield 28, 3) := by decide +kernel
theorem dX12_init_62 : decode cX12_init 62 = .ok (.aload_n 0, 1) := by decide +kernel
theorem dX12_init_63 : decode cX12_init 63 = .ok (.bipush 17, 2) := by decide +kernel
theorem dX12_init_65 : decode cX12_init 65 = .ok (.newarray .int, 2) := by decide +kernel
theorem dX12_init_67 : decode cX12_init 67 = .ok (.putfield 31, 3) := by decide +kernel
theorem dX12_init_70 : decode cX12_init 70 = .ok (.aload_n 0, 1) := by decide +kernel
theorem dX12_init_71 : decode cX12_init 71 = .ok (.bipush 17, 2) := by decide +kernel
theorem dX12_init_73 : decode cX12_init 73 = .ok (.newarray .int, 2) := by decide +kernel
theorem dX12_init_75 : decode cX12_init 75 = .ok (.putfield 34, 3) := by decide +kernel
theorem dX12_init_78 : decode cX12_init 78 = .ok (.aload_n 0, 1) := by decide +kernel
theorem dX12_init_79 : decode cX12_init 79 = .ok (.sipush 400, 3) := by decide +kernel
theorem dX12_init_82 : decode cX12_init 82 = .ok (.newarray .int, 2) := by decide +kernel
theorem dX12_init_84 : decode cX12_init 84 = .ok (.putfield 37, 3) := by decide +kernel
theorem dX12_init_87 : decode cX12_init 87 = .ok (.aload_n 0, 1) := by decide +kernel
theorem dX12_init_88 : decode cX12_init 88 = .ok (.sipush 400, 3) := by decide +kernel
theorem dX12_init_91 : decode cX12_init 91 = .ok (.newarray .int, 2) := by decide +kernel
theorem dX12_init_93 : decode cX12_init 93 = .ok (.putfield 40, 3) := by decide +kernel
theorem dX12_init_96 : decode cX12_init 96 = .ok (.aload_n 0, 1) := by decide +kernel
theorem dX12_init_97 : decode cX12_init 97 = .ok (.bipush 8, 2) := by decide +kernel
theorem dX12_init_99 : decode cX12_init 99 = .ok (.newarray .int, 2) := by decide +kernel
theorem dX12_init_101 : decode cX12_init 101 = .ok (.putfield 43, 3) := by decide +kernel
theorem dX12_init_104 : decode cX12_init 104 = .ok (.aload_n 0, 1) := by decide +kernel
theorem dX12_init_105 : decode cX12_init 105 = .ok (.iconst 4, 1) := by decide +kernel
theorem dX12_init_106 : decode cX12_init 106 = .ok (.newarray .int, 2) := by decide +kernel
theorem dX12_init_108 : decode cX12_init 108 = .ok (.putfield 46, 3) := by decide +kernel
theorem dX12_init_111 : decode cX12_init 111 = .ok (.aload_n 0, 1) := by decide +kernel
theorem dX12_init_112 : decode cX12_init 112 = .ok (.getfield 7, 3) := by decide +kernel
theorem dX12_init_115 : decode cX12_init 115 = .ok (.iconst 0, 1) := by decide +kernel
theorem dX12_init_116 : decode cX12_init 116 = .ok (.bipush 10, 2) := by decide +kernel
theorem dX12_init_118 : decode cX12_init 118 = .ok (.iastore, 1) := by decide +kernel
theorem dX12_init_119 : decode cX12_init 119 = .ok (.aload_n 0, 1) := by decide +kernel
theorem dX12_init_120 : decode cX12_init 120 = .ok (.getfield 7, 3) := by decide +kernel
theorem dX12_init_123 : decode cX12_init 123 = .ok (.iconst 1, 1) := by decide +kernel
theorem dX12_init_124 : decode cX12_init 124 = .ok (.bipush 8, 2) := by decide +kernel
theorem dX12_init_126 : decode cX12_init 126 = .ok (.iastore, 1) := by decide +kernel
theorem dX12_init_127 : decode cX12_init 127 = .ok (.aload_n 0, 1) := by decide +kernel
theorem dX12_init_128 : decode cX12_init 128 = .ok (.getfield 7, 3) := by decide +kernel
theorem dX12_init_131 : decode cX12_init 131 = .ok (.bipush 6, 2) := by decide +kernel
theorem dX12_init_133 : decode cX12_init 133 = .ok (.iconst 1, 1) := by decide +kernel
theorem dX12_init_134 : decode cX12_init 134 = .ok (.iastore, 1) := by decide +kernel
theorem dX12_init_135 : decode cX12_init 135 = .ok (.aload_n 0, 1) := by decide +kernel
theorem dX12_init_136 : decode cX12_init 136 = .ok (.getfield 7, 3) := by decide +kernel
theorem dX12_init_139 : decode cX12_init 139 = .ok (.bipush 7, 2) := by decide +kernel
theorem dX12_init_141 : decode cX12_init 141 = .ok (.sipush 340, 3) := by decide +kernel
theorem dX12_init_144 : decode cX12_init 144 = .ok (.iastore, 1) := by decide +kernel
theorem dX12_init_145 : decode cX12_init 145 = .ok (.aload_n 0, 1) := by decide +kernel
theorem dX12_init_146 : decode cX12_init 146 = .ok (.getfield 7, 3) := by decide +kernel
theorem dX12_init_149 : decode cX12_init 149 = .ok (.bipush 8, 2) := by decide +kernel
theorem dX12_init_151 : decode cX12_init 151 = .ok (.iconst 1, 1) := by decide +kernel
theorem dX12_init_152 : decode cX12_init 152 = .ok (.iastore, 1) := by decide +kernel
theorem dX12_init_153 : decode cX12_init 153 = .ok (.aload_n 0, 1) := by decide +kernel
theorem dX12_init_154 : decode cX12_init 154 = .ok (.getfield 7, 3) := by decide +kernel
theorem dX12_init_157 : decode cX12_init 157 = .ok (.bipush 11, 2) := by decide +kernel
theorem dX12_init_159 : decode cX12_init 159 = .ok (.bipush 10, 2) := by decide +kernel
theorem dX12_init_161 : decode cX12_init 161 = .ok (.iastore, 1) := by decide +kernel
theorem dX12_init_162 : decode cX12_init 162 = .ok (.aload_n 0, 1) := by decide +kernel
theorem dX12_init_163 : decode cX12_init 163 = .ok (.getfield 7, 3) := by decide +kernel
theorem dX12_init_166 : decode cX12_init 166 = .ok (.bipush 13, 2) := by decide +kernel
theorem dX12_init_168 : decode cX12_init 168 = .ok (.bipush 20, 2) := by decide +kernel
theorem dX12_init_170 : decode cX12_init 170 = .ok (.iastore, 1) := by decide +kernel
theorem dX12_init_171 : decode cX12_init 171 = .ok (.return_, 1) := by decide +kernel
theorem dX12_thrown_0 : decode cX12_thrown 0 = .ok (.aload_n 0, 1) := by decide +kernel
theorem dX12_thrown_1 : decode cX12_thrown 1 = .ok (.getfield 49, 3) := by decide +kernel
theorem dX12_thrown_4 : decode cX12_thrown 4 = .ok (.ireturn, 1) := by decide +kernel
theorem dX12_in_0 : decode cX12_in 0 = .ok (.iload_n 0, 1) := by decide +kernel
theorem dX12_in_1 : decode cX12_in 1 = .ok (.iload_n 1, 1) := by decide +kernel
theorem dX12_in_2 : decode cX12_in 2 = .ok (.if_icmp .lt 12, 3) := by decide +kernel
theorem dX12_in_5 : decode cX12_in 5 = .ok (.iload_n 0, 1) := by decide +kernel
theorem dX12_in_6 : decode cX12_in 6 = .ok (.iload_n 2, 1) := by decide +kernel
theorem dX12_in_7 : decode cX12_in 7 = .ok (.if_icmp .gt 7, 3) := by decide +kernel
theorem dX12_in_10 : decode cX12_in 10 = .ok (.iconst 1, 1) := by decide +kernel
theorem dX12_in_11 : decode cX12_in 11 = .ok (.goto 4, 3) := by decide +kernel
theorem dX12_in_14 : decode cX12_in 14 = .ok (.iconst 0, 1) := by decide +kernel
theorem dX12_in_15 : decode cX12_in 15 = .ok (.ireturn, 1) := by decide +kernel
theorem dX12_fails_0 : decode cX12_fails 0 = .ok (.aload_n 0, 1) := by decide +kernel
theorem dX12_fails_1 : decode cX12_fails 1 = .ok (.iload_n 1, 1) := by decide +kernel
theorem dX12_fails_2 : decode cX12_fails 2 = .ok (.putfield 49, 3) := by decide +kernel
theorem dX12_fails_5 : decode cX12_fails 5 = .ok (.iconst 0, 1) := by decide +kernel
theorem dX12_fails_6 : decode cX12_fails 6 = .ok (.ireturn, 1) := by decide +kernel
theorem dX12_tells_0 : decode cX12_tells 0 = .ok (.aload_n 0, 1) := by decide +kernel
theorem dX12_tells_1 : decode cX12_tells 1 = .ok (.iconst 0, 1) := by decide +kernel
theorem dX12_tells_2 : decode cX12_tells 2 = .ok (.putfield 49, 3) := by decide +kernel
theorem dX12_tells_5 : decode cX12_tells 5 = .ok (.iload_n 1, 1) := by decide +kernel
theorem dX12_tells_6 : decode cX12_tells 6 = .ok (.ireturn, 1) := by decide +kernel
theorem dX12_hold_0 : decode cX12_hold 0 = .ok (.iconst 0, 1) := by decide +kernel
theorem dX12_hold_1 : decode cX12_hold 1 = .ok (.istore_n 1, 1) := by decide +kernel
theorem dX12_hold_2 : decode cX12_hold 2 = .ok (.iload_n 1, 1) := by decide +kernel
theorem dX12_hold_3 : decode cX12_hold 3 = .ok (.bipush 122, 2) := by decide +kernel
theorem dX12_hold_5 : decode cX12_hold 5 = .ok (.if_icmp .ge 21, 3) := by decide +kernel
theorem dX12_hold_8 : decode cX12_hold 8 = .ok (.aload_n 0, 1) := by decide +kernel
theorem dX12_hold_9 : decode cX12_hold 9 = .ok (.getfield 16, 3) := by decide +kernel
theorem dX12_hold_12 : decode cX12_hold 12 = .ok (.iload_n 1, 1) := by decide +kernel
theorem dX12_hold_13 : decode cX12_hold 13 = .ok (.aload_n 0, 1) := by decide +kernel
theorem dX12_hold_14 : decode cX12_hold 14 = .ok (.getfield 7, 3) := by decide +kernel
theorem dX12_hold_17 : decode cX12_hold 17 = .ok (.iload_n 1, 1) := by decide +kernel
theorem dX12_hold_18 : decode cX12_hold 18 = .ok (.iaload, 1) := by decide +kernel
theorem dX12_hold_19 : decode cX12_hold 19 = .ok (.iastore, 1) := by decide +kernel
theorem dX12_hold_20 : decode cX12_hold 20 = .ok (.iinc 1 1, 3) := by decide +kernel
theorem dX12_hold_23 : decode cX12_hold 23 = .ok (.goto (-21), 3) := by decide +kernel
theorem dX12_hold_26 : decode cX12_hold 26 = .ok (.return_, 1) := by decide +kernel
set_option maxRecDepth 20000 in
theorem ggX12_ends_X12_tells : GoodIn wsX12_ends wsX12_tells := goodIn_r _ [8, 9, 10, 11, 12, 13, 14, 15, 16, 17, 18, 19, 20, 21, 22, 23, 24, 25, 26, 27, 28, 29, 30, 31, 32] (by decide +kernel) (by decide +kernel)
set_option maxRecDepth 20000 in
theorem gX12_ends_X12_tells : GoodIn wsX12_ends (wsV RX12 56 RX12 yX12_tells wsX12_tells) := goodIn_app (goodIn_of _ (by decide +kernel)) ggX12_ends_X12_tells
theorem dX12_ends_0 : decode cX12_ends 0 = .ok (.aload_n 0, 1) := by decide +kernel
theorem dX12_ends_1 : decode cX12_ends 1 = .ok (.getfield 53, 3) := by decide +kernel
theorem dX12_ends_4 : decode cX12_ends 4 = .ok (.iconst 4, 1) := by decide +kernel
theorem dX12_ends_5 : decode cX12_ends 5 = .ok (.if_icmp .ne 43, 3) := by decide +kernel
theorem dX12_ends_8 : decode cX12_ends 8 = .ok (.iconst 0, 1) := by decide +kernel
theorem dX12_ends_9 : decode cX12_ends 9 = .ok (.istore_n 2, 1) := by decide +kernel
theorem dX12_ends_10 : decode cX12_ends 10 = .ok (.iload_n 2, 1) := by decide +kernel
theorem dX12_ends_11 : decode cX12_ends 11 = .ok (.sipush 366, 3) := by decide +kernel
theorem dX12_ends_14 : decode cX12_ends 14 = .ok (.if_icmp .ge 24, 3) := by decide +kernel
theorem dX12_ends_17 : decode cX12_ends 17 = .ok (.aload_n 0, 1) := by decide +kernel
theorem dX12_ends_18 : decode cX12_ends 18 = .ok (.getfield 13, 3) := by decide +kernel
theorem dX12_ends_21 : decode cX12_ends 21 = .ok (.iload_n 2, 1) := by decide +kernel
theorem dX12_ends_22 : decode cX12_ends 22 = .ok (.aload_n 0, 1) := by decide +kernel
theorem dX12_ends_23 : decode cX12_ends 23 = .ok (.getfield 13, 3) := by decide +kernel
theorem dX12_ends_26 : decode cX12_ends 26 = .ok (.iload_n 2, 1) := by decide +kernel
theorem dX12_ends_27 : decode cX12_ends 27 = .ok (.bipush 122, 2) := by decide +kernel
theorem dX12_ends_29 : decode cX12_ends 29 = .ok (.iadd, 1) := by decide +kernel
theorem dX12_ends_30 : decode cX12_ends 30 = .ok (.iaload, 1) := by decide +kernel
theorem dX12_ends_31 : decode cX12_ends 31 = .ok (.iastore, 1) := by decide +kernel
theorem dX12_ends_32 : decode cX12_ends 32 = .ok (.iinc 2 1, 3) := by decide +kernel
theorem dX12_ends_35 : decode cX12_ends 35 = .ok (.goto (-25), 3) := by decide +kernel
theorem dX12_ends_38 : decode cX12_ends 38 = .ok (.aload_n 0, 1) := by decide +kernel
theorem dX12_ends_39 : decode cX12_ends 39 = .ok (.dup, 1) := by decide +kernel
theorem dX12_ends_40 : decode cX12_ends 40 = .ok (.getfield 53, 3) := by decide +kernel
theorem dX12_ends_43 : decode cX12_ends 43 = .ok (.iconst 1, 1) := by decide +kernel
theorem dX12_ends_44 : decode cX12_ends 44 = .ok (.isub, 1) := by decide +kernel
theorem dX12_ends_45 : decode cX12_ends 45 = .ok (.putfield 53, 3) := by decide +kernel
theorem dX12_ends_48 : decode cX12_ends 48 = .ok (.iconst 0, 1) := by decide +kernel
theorem dX12_ends_49 : decode cX12_ends 49 = .ok (.istore_n 2, 1) := by decide +kernel
theorem dX12_ends_50 : decode cX12_ends 50 = .ok (.iload_n 2, 1) := by decide +kernel
theorem dX12_ends_51 : decode cX12_ends 51 = .ok (.bipush 122, 2) := by decide +kernel
theorem dX12_ends_53 : decode cX12_ends 53 = .ok (.if_icmp .ge 29, 3) := by decide +kernel
theorem dX12_ends_56 : decode cX12_ends 56 = .ok (.aload_n 0, 1) := by decide +kernel
theorem dX12_ends_57 : decode cX12_ends 57 = .ok (.getfield 13, 3) := by decide +kernel
theorem dX12_ends_60 : decode cX12_ends 60 = .ok (.bipush 122, 2) := by decide +kernel
theorem dX12_ends_62 : decode cX12_ends 62 = .ok (.aload_n 0, 1) := by decide +kernel
theorem dX12_ends_63 : decode cX12_ends 63 = .ok (.getfield 53, 3) := by decide +kernel
theorem dX12_ends_66 : decode cX12_ends 66 = .ok (.imul, 1) := by decide +kernel
theorem dX12_ends_67 : decode cX12_ends 67 = .ok (.iload_n 2, 1) := by decide +kernel
theorem dX12_ends_68 : decode cX12_ends 68 = .ok (.iadd, 1) := by decide +kernel
theorem dX12_ends_69 : decode cX12_ends 69 = .ok (.aload_n 0, 1) := by decide +kernel
theorem dX12_ends_70 : decode cX12_ends 70 = .ok (.getfield 16, 3) := by decide +kernel
theorem dX12_ends_73 : decode cX12_ends 73 = .ok (.iload_n 2, 1) := by decide +kernel
theorem dX12_ends_74 : decode cX12_ends 74 = .ok (.iaload, 1) := by decide +kernel
theorem dX12_ends_75 : decode cX12_ends 75 = .ok (.iastore, 1) := by decide +kernel
theorem dX12_ends_76 : decode cX12_ends 76 = .ok (.iinc 2 1, 3) := by decide +kernel
theorem dX12_ends_79 : decode cX12_ends 79 = .ok (.goto (-29), 3) := by decide +kernel
theorem dX12_ends_82 : decode cX12_ends 82 = .ok (.aload_n 0, 1) := by decide +kernel
theorem dX12_ends_83 : decode cX12_ends 83 = .ok (.dup, 1) := by decide +kernel
theorem dX12_ends_84 : decode cX12_ends 84 = .ok (.getfield 53, 3) := by decide +kernel
theorem dX12_ends_87 : decode cX12_ends 87 = .ok (.iconst 1, 1) := by decide +kernel
theorem dX12_ends_88 : decode cX12_ends 88 = .ok (.iadd, 1) := by decide +kernel
theorem dX12_ends_89 : decode cX12_ends 89 = .ok (.putfield 53, 3) := by decide +kernel
theorem dX12_ends_92 : decode cX12_ends 92 = .ok (.aload_n 0, 1) := by decide +kernel
theorem dX12_ends_93 : decode cX12_ends 93 = .ok (.iload_n 1, 1) := by decide +kernel
theorem dX12_ends_94 : decode cX12_ends 94 = .ok (.invokevirtual 56, 3) := by decide +kernel
theorem dX12_ends_97 : decode cX12_ends 97 = .ok (.ireturn, 1) := by decide +kernel
theorem dX12_of_0 : decode cX12_of 0 = .ok (.aload_n 0, 1) := by decide +kernel
theorem dX12_of_1 : decode cX12_of 1 = .ok (.getfield 7, 3) := by decide +kernel
theorem dX12_of_4 : decode cX12_of 4 = .ok (.bipush 14, 2) := by decide +kernel
theorem dX12_of_6 : decode cX12_of 6 = .ok (.bipush 10, 2) := by decide +kernel
theorem dX12_of_8 : decode cX12_of 8 = .ok (.iload_n 1, 1) := by decide +kernel
theorem dX12_of_9 : decode cX12_of 9 = .ok (.imul, 1) := by decide +kernel
theorem dX12_of_10 : decode cX12_of 10 = .ok (.iadd, 1) := by decide +kernel
theorem dX12_of_11 : decode cX12_of 11 = .ok (.iload_n 2, 1) := by decide +kernel
theorem dX12_of_12 : decode cX12_of 12 = .ok (.iadd, 1) := by decide +kernel
theorem dX12_of_13 : decode cX12_of 13 = .ok (.iaload, 1) := by decide +kernel
theorem dX12_of_14 : decode cX12_of 14 = .ok (.ireturn, 1) := by decide +kernel
theorem dX12_puts_0 : decode cX12_puts 0 = .ok (.aload_n 0, 1) := by decide +kernel
theorem dX12_puts_1 : decode cX12_puts 1 = .ok (.getfield 7, 3) := by decide +kernel
theorem dX12_puts_4 : decode cX12_puts 4 = .ok (.bipush 14, 2) := by decide +kernel
theorem dX12_puts_6 : decode cX12_puts 6 = .ok (.bipush 10, 2) := by decide +kernel
theorem dX12_puts_8 : decode cX12_puts 8 = .ok (.iload_n 1, 1) := by decide +kernel
theorem dX12_puts_9 : decode cX12_puts 9 = .ok (.imul, 1) := by decide +kernel
theorem dX12_puts_10 : decode cX12_puts 10 = .ok (.iadd, 1) := by decide +kernel
theorem dX12_puts_11 : decode cX12_puts 11 = .ok (.iload_n 2, 1) := by decide +kernel
theorem dX12_puts_12 : decode cX12_puts 12 = .ok (.iadd, 1) := by decide +kernel
theorem dX12_puts_13 : decode cX12_puts 13 = .ok (.iload_n 3, 1) := by decide +kernel
theorem dX12_puts_14 : decode cX12_puts 14 = .ok (.iastore, 1) := by decide +kernel
theorem dX12_puts_15 : decode cX12_puts 15 = .ok (.return_, 1) := by decide +kernel
theorem dX12_isMicrophone_0 : decode cX12_isMicrophone 0 = .ok (.iload_n 1, 1) := by decide +kernel
theorem dX12_isMicrophone_1 : decode cX12_isMicrophone 1 = .ok (.ifCond .lt 17, 3) := by decide +kernel
theorem dX12_isMicrophone_4 : decode cX12_isMicrophone 4 = .ok (.iload_n 1, 1) := by decide +kernel
theorem dX12_isMicrophone_5 : decode cX12_isMicrophone 5 = .ok (.aload_n 0, 1) := by decide +kernel
theorem dX12_isMicrophone_6 : decode cX12_isMicrophone 6 = .ok (.getfield 7, 3) := by decide +kernel
theorem dX12_isMicrophone_9 : decode cX12_isMicrophone 9 = .ok (.iconst 2, 1) := by decide +kernel
theorem dX12_isMicrophone_10 : decode cX12_isMicrophone 10 = .ok (.iaload, 1) := by decide +kernel
theorem dX12_isMicrophone_11 : decode cX12_isMicrophone 11 = .ok (.if_icmp .ge 7, 3) := by decide +kernel
theorem dX12_isMicrophone_14 : decode cX12_isMicrophone 14 = .ok (.iconst 1, 1) := by decide +kernel
theorem dX12_isMicrophone_15 : decode cX12_isMicrophone 15 = .ok (.goto 4, 3) := by decide +kernel
theorem dX12_isMicrophone_18 : decode cX12_isMicrophone 18 = .ok (.iconst 0, 1) := by decide +kernel
theorem dX12_isMicrophone_19 : decode cX12_isMicrophone 19 = .ok (.ireturn, 1) := by decide +kernel
theorem dX12_isCell_0 : decode cX12_isCell 0 = .ok (.iload_n 1, 1) := by decide +kernel
theorem dX12_isCell_1 : decode cX12_isCell 1 = .ok (.ifCond .lt 24, 3) := by decide +kernel
theorem dX12_isCell_4 : decode cX12_isCell 4 = .ok (.iload_n 1, 1) := by decide +kernel
theorem dX12_isCell_5 : decode cX12_isCell 5 = .ok (.aload_n 0, 1) := by decide +kernel
theorem dX12_isCell_6 : decode cX12_isCell 6 = .ok (.getfield 7, 3) := by decide +kernel
theorem dX12_isCell_9 : decode cX12_isCell 9 = .ok (.iconst 0, 1) := by decide +kernel
theorem dX12_isCell_10 : decode cX12_isCell 10 = .ok (.iaload, 1) := by decide +kernel
theorem dX12_isCell_11 : decode cX12_isCell 11 = .ok (.aload_n 0, 1) := by decide +kernel
theorem dX12_isCell_12 : decode cX12_isCell 12 = .ok (.getfield 7, 3) := by decide +kernel
theorem dX12_isCell_15 : decode cX12_isCell 15 = .ok (.iconst 1, 1) := by decide +kernel
theorem dX12_isCell_16 : decode cX12_isCell 16 = .ok (.iaload, 1) := by decide +kernel
theorem dX12_isCell_17 : decode cX12_isCell 17 = .ok (.imul, 1) := by decide +kernel
theorem dX12_isCell_18 : decode cX12_isCell 18 = .ok (.if_icmp .ge 7, 3) := by decide +kernel
theorem dX12_isCell_21 : decode cX12_isCell 21 = .ok (.iconst 1, 1) := by decide +kernel
theorem dX12_isCell_22 : decode cX12_isCell 22 = .ok (.goto 4, 3) := by decide +kernel
theorem dX12_isCell_25 : decode cX12_isCell 25 = .ok (.iconst 0, 1) := by decide +kernel
theorem dX12_isCell_26 : decode cX12_isCell 26 = .ok (.ireturn, 1) := by decide +kernel
theorem dX12_root_0 : decode cX12_root 0 = .ok (.iconst 0, 1) := by decide +kernel
theorem dX12_root_1 : decode cX12_root 1 = .ok (.istore_n 1, 1) := by decide +kernel
theorem dX12_root_2 : decode cX12_root 2 = .ok (.sipush 30000, 3) := by decide +kernel
theorem dX12_root_5 : decode cX12_root 5 = .ok (.istore_n 2, 1) := by decide +kernel
theorem dX12_root_6 : decode cX12_root 6 = .ok (.iload_n 1, 1) := by decide +kernel
theorem dX12_root_7 : decode cX12_root 7 = .ok (.iload_n 2, 1) := by decide +kernel
theorem dX12_root_8 : decode cX12_root 8 = .ok (.if_icmp .ge 30, 3) := by decide +kernel
theorem dX12_root_11 : decode cX12_root 11 = .ok (.iload_n 1, 1) := by decide +kernel
theorem dX12_root_12 : decode cX12_root 12 = .ok (.iload_n 2, 1) := by decide +kernel
theorem dX12_root_13 : decode cX12_root 13 = .ok (.iadd, 1) := by decide +kernel
theorem dX12_root_14 : decode cX12_root 14 = .ok (.iconst 1, 1) := by decide +kernel
theorem dX12_root_15 : decode cX12_root 15 = .ok (.iadd, 1) := by decide +kernel
theorem dX12_root_16 : decode cX12_root 16 = .ok (.iconst 2, 1) := by decide +kernel
theorem dX12_root_17 : decode cX12_root 17 = .ok (.idiv, 1) := by decide +kernel
theorem dX12_root_18 : decode cX12_root 18 = .ok (.istore_n 3, 1) := by decide +kernel
theorem dX12_root_19 : decode cX12_root 19 = .ok (.iload_n 3, 1) := by decide +kernel
theorem dX12_root_20 : decode cX12_root 20 = .ok (.iload_n 3, 1) := by decide +kernel
theorem dX12_root_21 : decode cX12_root 21 = .ok (.imul, 1) := by decide +kernel
theorem dX12_root_22 : decode cX12_root 22 = .ok (.iload_n 0, 1) := by decide +kernel
theorem dX12_root_23 : decode cX12_root 23 = .ok (.if_icmp .gt 8, 3) := by decide +kernel
theorem dX12_root_26 : decode cX12_root 26 = .ok (.iload_n 3, 1) := by decide +kernel
theorem dX12_root_27 : decode cX12_root 27 = .ok (.istore_n 1, 1) := by decide +kernel
theorem dX12_root_28 : decode cX12_root 28 = .ok (.goto 7, 3) := by decide +kernel
theorem dX12_root_31 : decode cX12_root 31 = .ok (.iload_n 3, 1) := by decide +kernel
theorem dX12_root_32 : decode cX12_root 32 = .ok (.iconst 1, 1) := by decide +kernel
theorem dX12_root_33 : decode cX12_root 33 = .ok (.isub, 1) := by decide +kernel
theorem dX12_root_34 : decode cX12_root 34 = .ok (.istore_n 2, 1) := by decide +kernel
theorem dX12_root_35 : decode cX12_root 35 = .ok (.goto (-29), 3) := by decide +kernel
theorem dX12_root_38 : decode cX12_root 38 = .ok (.iload_n 1, 1) := by decide +kernel
theorem dX12_root_39 : decode cX12_root 39 = .ok (.ireturn, 1) := by decide +kernel
set_option maxRecDepth 20000 in
theorem ggX12_wayTo_X12_of : GoodIn wsX12_wayTo wsX12_of := goodIn_r _ [5, 6, 10, 11, 12, 13, 14, 15, 16, 17, 18, 19, 20, 21, 22, 23, 24, 25, 26, 27, 28, 29, 30, 31, 32] (by decide +kernel) (by decide +kernel)
set_option maxRecDepth 20000 in
theorem gX12_wayTo_X12_of : GoodIn wsX12_wayTo (wsV RX12 60 RX12 yX12_of wsX12_of) := goodIn_app (goodIn_of _ (by decide +kernel)) ggX12_wayTo_X12_of
set_option maxRecDepth 20000 in
theorem ggX12_wayTo_X12_root : GoodIn wsX12_wayTo wsX12_root := goodIn_r _ [9] (by decide +kernel) (by decide +kernel)
set_option maxRecDepth 20000 in
theorem gX12_wayTo_X12_root : GoodIn wsX12_wayTo (va_wsS RX12 64 yX12_root wsX12_root) := goodIn_app (goodIn_of _ (by decide +kernel)) ggX12_wayTo_X12_root
theorem dX12_wayTo_0 : decode cX12_wayTo 0 = .ok (.iload_n 1, 1) := by decide +kernel
theorem dX12_wayTo_1 : decode cX12_wayTo 1 = .ok (.aload_n 0, 1) := by decide +kernel
theorem dX12_wayTo_2 : decode cX12_wayTo 2 = .ok (.iload_n 3, 1) := by decide +kernel
theorem dX12_wayTo_3 : decode cX12_wayTo 3 = .ok (.iconst 0, 1) := by decide +kernel
theorem dX12_wayTo_4 : decode cX12_wayTo 4 = .ok (.invokevirtual 60, 3) := by decide +kernel
theorem dX12_wayTo_7 : decode cX12_wayTo 7 = .ok (.isub, 1) := by decide +kernel
theorem dX12_wayTo_8 : decode cX12_wayTo 8 = .ok (.istore 4, 2) := by decide +kernel
theorem dX12_wayTo_10 : decode cX12_wayTo 10 = .ok (.iload_n 2, 1) := by decide +kernel
theorem dX12_wayTo_11 : decode cX12_wayTo 11 = .ok (.aload_n 0, 1) := by decide +kernel
theorem dX12_wayTo_12 : decode cX12_wayTo 12 = .ok (.iload_n 3, 1) := by decide +kernel
theorem dX12_wayTo_13 : decode cX12_wayTo 13 = .ok (.iconst 1, 1) := by decide +kernel
theorem dX12_wayTo_14 : decode cX12_wayTo 14 = .ok (.invokevirtual 60, 3) := by decide +kernel
theorem dX12_wayTo_17 : decode cX12_wayTo 17 = .ok (.isub, 1) := by decide +kernel
theorem dX12_wayTo_18 : decode cX12_wayTo 18 = .ok (.istore 5, 2) := by decide +kernel
theorem dX12_wayTo_20 : decode cX12_wayTo 20 = .ok (.iload 4, 2) := by decide +kernel
theorem dX12_wayTo_22 : decode cX12_wayTo 22 = .ok (.iload 4, 2) := by decide +kernel
theorem dX12_wayTo_24 : decode cX12_wayTo 24 = .ok (.imul, 1) := by decide +kernel
theorem dX12_wayTo_25 : decode cX12_wayTo 25 = .ok (.iload 5, 2) := by decide +kernel
theorem dX12_wayTo_27 : decode cX12_wayTo 27 = .ok (.iload 5, 2) := by decide +kernel
theorem dX12_wayTo_29 : decode cX12_wayTo 29 = .ok (.imul, 1) := by decide +kernel
theorem dX12_wayTo_30 : decode cX12_wayTo 30 = .ok (.iadd, 1) := by decide +kernel
theorem dX12_wayTo_31 : decode cX12_wayTo 31 = .ok (.invokestatic 64, 3) := by decide +kernel
theorem dX12_wayTo_34 : decode cX12_wayTo 34 = .ok (.ireturn, 1) := by decide +kernel
theorem dX12_timeOf_0 : decode cX12_timeOf 0 = .ok (.iload_n 1, 1) := by decide +kernel
theorem dX12_timeOf_1 : decode cX12_timeOf 1 = .ok (.sipush 1000, 3) := by decide +kernel
theorem dX12_timeOf_4 : decode cX12_timeOf 4 = .ok (.imul, 1) := by decide +kernel
theorem dX12_timeOf_5 : decode cX12_timeOf 5 = .ok (.aload_n 0, 1) := by decide +kernel
theorem dX12_timeOf_6 : decode cX12_timeOf 6 = .ok (.getfield 7, 3) := by decide +kernel
theorem dX12_timeOf_9 : decode cX12_timeOf 9 = .ok (.bipush 7, 2) := by decide +kernel
theorem dX12_timeOf_11 : decode cX12_timeOf 11 = .ok (.iaload, 1) := by decide +kernel
theorem dX12_timeOf_12 : decode cX12_timeOf 12 = .ok (.idiv, 1) := by decide +kernel
theorem dX12_timeOf_13 : decode cX12_timeOf 13 = .ok (.ireturn, 1) := by decide +kernel
theorem dX12_takes_0 : decode cX12_takes 0 = .ok (.iload_n 3, 1) := by decide +kernel
theorem dX12_takes_1 : decode cX12_takes 1 = .ok (.iload_n 0, 1) := by decide +kernel
theorem dX12_takes_2 : decode cX12_takes 2 = .ok (.if_icmp .ge 9, 3) := by decide +kernel
theorem dX12_takes_5 : decode cX12_takes 5 = .ok (.iload 5, 2) := by decide +kernel
theorem dX12_takes_7 : decode cX12_takes 7 = .ok (.iload_n 0, 1) := by decide +kernel
theorem dX12_takes_8 : decode cX12_takes 8 = .ok (.if_icmp .gt 16, 3) := by decide +kernel
theorem dX12_takes_11 : decode cX12_takes 11 = .ok (.iload_n 3, 1) := by decide +kernel
theorem dX12_takes_12 : decode cX12_takes 12 = .ok (.iload_n 0, 1) := by decide +kernel
theorem dX12_takes_13 : decode cX12_takes 13 = .ok (.if_icmp .le 9, 3) := by decide +kernel
theorem dX12_takes_16 : decode cX12_takes 16 = .ok (.iload 5, 2) := by decide +kernel
theorem dX12_takes_18 : decode cX12_takes 18 = .ok (.iload_n 0, 1) := by decide +kernel
theorem dX12_takes_19 : decode cX12_takes 19 = .ok (.if_icmp .lt 5, 3) := by decide +kernel
theorem dX12_takes_22 : decode cX12_takes 22 = .ok (.iconst 0, 1) := by decide +kernel
theorem dX12_takes_23 : decode cX12_takes 23 = .ok (.ireturn, 1) := by decide +kernel
theorem dX12_takes_24 : decode cX12_takes 24 = .ok (.iload 5, 2) := by decide +kernel
theorem dX12_takes_26 : decode cX12_takes 26 = .ok (.iload_n 3, 1) := by decide +kernel
theorem dX12_takes_27 : decode cX12_takes 27 = .ok (.isub, 1) := by decide +kernel
theorem dX12_takes_28 : decode cX12_takes 28 = .ok (.i2l, 1) := by decide +kernel
theorem dX12_takes_29 : decode cX12_takes 29 = .ok (.lstore 7, 2) := by decide +kernel
theorem dX12_takes_31 : decode cX12_takes 31 = .ok (.iload 4, 2) := by decide +kernel
theorem dX12_takes_33 : decode cX12_takes 33 = .ok (.i2l, 1) := by decide +kernel
theorem dX12_takes_34 : decode cX12_takes 34 = .ok (.lload 7, 2) := by decide +kernel
theorem dX12_takes_36 : decode cX12_takes 36 = .ok (.lmul, 1) := by decide +kernel
theorem dX12_takes_37 : decode cX12_takes 37 = .ok (.iload_n 0, 1) := by decide +kernel
theorem dX12_takes_38 : decode cX12_takes 38 = .ok (.iload_n 3, 1) := by decide +kernel
theorem dX12_takes_39 : decode cX12_takes 39 = .ok (.isub, 1) := by decide +kernel
theorem dX12_takes_40 : decode cX12_takes 40 = .ok (.i2l, 1) := by decide +kernel
theorem dX12_takes_41 : decode cX12_takes 41 = .ok (.iload 6, 2) := by decide +kernel
theorem dX12_takes_43 : decode cX12_takes 43 = .ok (.iload 4, 2) := by decide +kernel
theorem dX12_takes_45 : decode cX12_takes 45 = .ok (.isub, 1) := by decide +kernel
theorem dX12_takes_46 : decode cX12_takes 46 = .ok (.i2l, 1) := by decide +kernel
theorem dX12_takes_47 : decode cX12_takes 47 = .ok (.lmul, 1) := by decide +kernel
theorem dX12_takes_48 : decode cX12_takes 48 = .ok (.ladd, 1) := by decide +kernel
theorem dX12_takes_49 : decode cX12_takes 49 = .ok (.lstore 9, 2) := by decide +kernel
theorem dX12_takes_51 : decode cX12_takes 51 = .ok (.iload_n 1, 1) := by decide +kernel
theorem dX12_takes_52 : decode cX12_takes 52 = .ok (.i2l, 1) := by decide +kernel
theorem dX12_takes_53 : decode cX12_takes 53 = .ok (.lload 7, 2) := by decide +kernel
theorem dX12_takes_55 : decode cX12_takes 55 = .ok (.lmul, 1) := by decide +kernel
theorem dX12_takes_56 : decode cX12_takes 56 = .ok (.lstore 11, 2) := by decide +kernel
theorem dX12_takes_58 : decode cX12_takes 58 = .ok (.iload_n 2, 1) := by decide +kernel
theorem dX12_takes_59 : decode cX12_takes 59 = .ok (.i2l, 1) := by decide +kernel
theorem dX12_takes_60 : decode cX12_takes 60 = .ok (.lload 7, 2) := by decide +kernel
theorem dX12_takes_62 : decode cX12_takes 62 = .ok (.lmul, 1) := by decide +kernel
theorem dX12_takes_63 : decode cX12_takes 63 = .ok (.lstore 13, 2) := by decide +kernel
theorem dX12_takes_65 : decode cX12_takes 65 = .ok (.lload 7, 2) := by decide +kernel
theorem dX12_takes_67 : decode cX12_takes 67 = .ok (.lconst 0, 1) := by decide +kernel
theorem dX12_takes_68 : decode cX12_takes 68 = .ok (.lcmp, 1) := by decide +kernel
theorem dX12_takes_69 : decode cX12_takes 69 = .ok (.ifCond .le 27, 3) := by decide +kernel
theorem dX12_takes_72 : decode cX12_takes 72 = .ok (.lload 9, 2) := by decide +kernel
theorem dX12_takes_74 : decode cX12_takes 74 = .ok (.lload 11, 2) := by decide +kernel
theorem dX12_takes_76 : decode cX12_takes 76 = .ok (.lcmp, 1) := by decide +kernel
theorem dX12_takes_77 : decode cX12_takes 77 = .ok (.ifCond .lt 15, 3) := by decide +kernel
theorem dX12_takes_80 : decode cX12_takes 80 = .ok (.lload 9, 2) := by decide +kernel
theorem dX12_takes_82 : decode cX12_takes 82 = .ok (.lload 13, 2) := by decide +kernel
theorem dX12_takes_84 : decode cX12_takes 84 = .ok (.lcmp, 1) := by decide +kernel
theorem dX12_takes_85 : decode cX12_takes 85 = .ok (.ifCond .gt 7, 3) := by decide +kernel
theorem dX12_takes_88 : decode cX12_takes 88 = .ok (.iconst 1, 1) := by decide +kernel
theorem dX12_takes_89 : decode cX12_takes 89 = .ok (.goto 28, 3) := by decide +kernel
theorem dX12_takes_92 : decode cX12_takes 92 = .ok (.iconst 0, 1) := by decide +kernel
theorem dX12_takes_93 : decode cX12_takes 93 = .ok (.goto 24, 3) := by decide +kernel
theorem dX12_takes_96 : decode cX12_takes 96 = .ok (.lload 9, 2) := by decide +kernel
theorem dX12_takes_98 : decode cX12_takes 98 = .ok (.lload 11, 2) := by decide +kernel
theorem dX12_takes_100 : decode cX12_takes 100 = .ok (.lcmp, 1) := by decide +kernel
theorem dX12_takes_101 : decode cX12_takes 101 = .ok (.ifCond .gt 15, 3) := by decide +kernel
theorem dX12_takes_104 : decode cX12_takes 104 = .ok (.lload 9, 2) := by decide +kernel
theorem dX12_takes_106 : decode cX12_takes 106 = .ok (.lload 13, 2) := by decide +kernel
theorem dX12_takes_108 : decode cX12_takes 108 = .ok (.lcmp, 1) := by decide +kernel
theorem dX12_takes_109 : decode cX12_takes 109 = .ok (.ifCond .lt 7, 3) := by decide +kernel
theorem dX12_takes_112 : decode cX12_takes 112 = .ok (.iconst 1, 1) := by decide +kernel
theorem dX12_takes_113 : decode cX12_takes 113 = .ok (.goto 4, 3) := by decide +kernel
theorem dX12_takes_116 : decode cX12_takes 116 = .ok (.iconst 0, 1) := by decide +kernel
theorem dX12_takes_117 : decode cX12_takes 117 = .ok (.ireturn, 1) := by decide +kernel
set_option maxRecDepth 20000 in
theorem ggX12_isTaken_X12_of : GoodIn wsX12_isTaken wsX12_of := goodIn_r _ [6, 1, 10, 11, 12, 13, 14, 15, 16, 17, 18, 19, 20, 21, 22, 23, 24, 25, 26, 27, 28, 29, 30, 31, 32] (by decide +kernel) (by decide +kernel)
set_option maxRecDepth 20000 in
theorem gX12_isTaken_X12_of : GoodIn wsX12_isTaken (wsV RX12 60 RX12 yX12_of wsX12_of) := goodIn_app (goodIn_of _ (by decide +kernel)) ggX12_isTaken_X12_of
set_option maxRecDepth 20000 in
theorem ggX12_isTaken_X12_takes : GoodIn wsX12_isTaken wsX12_takes := goodIn_r _ [9] (by decide +kernel) (by decide +kernel)
set_option maxRecDepth 20000 in
theorem gX12_isTaken_X12_takes : GoodIn wsX12_isTaken (va_wsS RX12 67 yX12_takes wsX12_takes) := goodIn_app (goodIn_of _ (by decide +kernel)) ggX12_isTaken_X12_takes
theorem dX12_isTaken_0 : decode cX12_isTaken 0 = .ok (.iconst 0, 1) := by decide +kernel
theorem dX12_isTaken_1 : decode cX12_isTaken 1 = .ok (.istore 4, 2) := by decide +kernel
theorem dX12_isTaken_3 : decode cX12_isTaken 3 = .ok (.iconst 0, 1) := by decide +kernel
theorem dX12_isTaken_4 : decode cX12_isTaken 4 = .ok (.istore 5, 2) := by decide +kernel
theorem dX12_isTaken_6 : decode cX12_isTaken 6 = .ok (.iload 5, 2) := by decide +kernel
theorem dX12_isTaken_8 : decode cX12_isTaken 8 = .ok (.aload_n 0, 1) := by decide +kernel
theorem dX12_isTaken_9 : decode cX12_isTaken 9 = .ok (.getfield 7, 3) := by decide +kernel
theorem dX12_isTaken_12 : decode cX12_isTaken 12 = .ok (.iconst 4, 1) := by decide +kernel
theorem dX12_isTaken_13 : decode cX12_isTaken 13 = .ok (.iaload, 1) := by decide +kernel
theorem dX12_isTaken_14 : decode cX12_isTaken 14 = .ok (.if_icmp .ge 141, 3) := by decide +kernel
theorem dX12_isTaken_17 : decode cX12_isTaken 17 = .ok (.bipush 106, 2) := by decide +kernel
theorem dX12_isTaken_19 : decode cX12_isTaken 19 = .ok (.iconst 4, 1) := by decide +kernel
theorem dX12_isTaken_20 : decode cX12_isTaken 20 = .ok (.iload 5, 2) := by decide +kernel
theorem dX12_isTaken_22 : decode cX12_isTaken 22 = .ok (.imul, 1) := by decide +kernel
theorem dX12_isTaken_23 : decode cX12_isTaken 23 = .ok (.iadd, 1) := by decide +kernel
theorem dX12_isTaken_24 : decode cX12_isTaken 24 = .ok (.istore 6, 2) := by decide +kernel
theorem dX12_isTaken_26 : decode cX12_isTaken 26 = .ok (.aload_n 0, 1) := by decide +kernel
theorem dX12_isTaken_27 : decode cX12_isTaken 27 = .ok (.getfield 7, 3) := by decide +kernel
theorem dX12_isTaken_30 : decode cX12_isTaken 30 = .ok (.iload 6, 2) := by decide +kernel
theorem dX12_isTaken_32 : decode cX12_isTaken 32 = .ok (.iaload, 1) := by decide +kernel
theorem dX12_isTaken_33 : decode cX12_isTaken 33 = .ok (.iconst 1, 1) := by decide +kernel
theorem dX12_isTaken_34 : decode cX12_isTaken 34 = .ok (.if_icmp .ne 7, 3) := by decide +kernel
theorem dX12_isTaken_37 : decode cX12_isTaken 37 = .ok (.iconst 1, 1) := by decide +kernel
theorem dX12_isTaken_38 : decode cX12_isTaken 38 = .ok (.goto 4, 3) := by decide +kernel
theorem dX12_isTaken_41 : decode cX12_isTaken 41 = .ok (.iconst 0, 1) := by decide +kernel
theorem dX12_isTaken_42 : decode cX12_isTaken 42 = .ok (.istore 7, 2) := by decide +kernel
theorem dX12_isTaken_44 : decode cX12_isTaken 44 = .ok (.aload_n 0, 1) := by decide +kernel
theorem dX12_isTaken_45 : decode cX12_isTaken 45 = .ok (.iload_n 3, 1) := by decide +kernel
theorem dX12_isTaken_46 : decode cX12_isTaken 46 = .ok (.iconst 0, 1) := by decide +kernel
theorem dX12_isTaken_47 : decode cX12_isTaken 47 = .ok (.invokevirtual 60, 3) := by decide +kernel
theorem dX12_isTaken_50 : decode cX12_isTaken 50 = .ok (.istore 8, 2) := by decide +kernel
theorem dX12_isTaken_52 : decode cX12_isTaken 52 = .ok (.aload_n 0, 1) := by decide +kernel
theorem dX12_isTaken_53 : decode cX12_isTaken 53 = .ok (.iload_n 3, 1) := by decide +kernel
theorem dX12_isTaken_54 : decode cX12_isTaken 54 = .ok (.iconst 1, 1) := by decide +kernel
theorem dX12_isTaken_55 : decode cX12_isTaken 55 = .ok (.invokevirtual 60, 3) := by decide +kernel
theorem dX12_isTaken_58 : decode cX12_isTaken 58 = .ok (.istore 9, 2) := by decide +kernel
theorem dX12_isTaken_60 : decode cX12_isTaken 60 = .ok (.iload 4, 2) := by decide +kernel
theorem dX12_isTaken_62 : decode cX12_isTaken 62 = .ok (.ifCond .ne 80, 3) := by decide +kernel
theorem dX12_isTaken_65 : decode cX12_isTaken 65 = .ok (.aload_n 0, 1) := by decide +kernel
theorem dX12_isTaken_66 : decode cX12_isTaken 66 = .ok (.getfield 7, 3) := by decide +kernel
theorem dX12_isTaken_69 : decode cX12_isTaken 69 = .ok (.iload 6, 2) := by decide +kernel
theorem dX12_isTaken_71 : decode cX12_isTaken 71 = .ok (.iconst 1, 1) := by decide +kernel
theorem dX12_isTaken_72 : decode cX12_isTaken 72 = .ok (.iadd, 1) := by decide +kernel
theorem dX12_isTaken_73 : decode cX12_isTaken 73 = .ok (.iaload, 1) := by decide +kernel
theorem dX12_isTaken_74 : decode cX12_isTaken 74 = .ok (.aload_n 0, 1) := by decide +kernel
theorem dX12_isTaken_75 : decode cX12_isTaken 75 = .ok (.getfield 7, 3) := by decide +kernel
theorem dX12_isTaken_78 : decode cX12_isTaken 78 = .ok (.iload 6, 2) := by decide +kernel
theorem dX12_isTaken_80 : decode cX12_isTaken 80 = .ok (.iconst 2, 1) := by decide +kernel
theorem dX12_isTaken_81 : decode cX12_isTaken 81 = .ok (.iadd, 1) := by decide +kernel
theorem dX12_isTaken_82 : decode cX12_isTaken 82 = .ok (.iaload, 1) := by decide +kernel
theorem dX12_isTaken_83 : decode cX12_isTaken 83 = .ok (.aload_n 0, 1) := by decide +kernel
theorem dX12_isTaken_84 : decode cX12_isTaken 84 = .ok (.getfield 7, 3) := by decide +kernel
theorem dX12_isTaken_87 : decode cX12_isTaken 87 = .ok (.iload 6, 2) := by decide +kernel
theorem dX12_isTaken_89 : decode cX12_isTaken 89 = .ok (.iconst 3, 1) := by decide +kernel
theorem dX12_isTaken_90 : decode cX12_isTaken 90 = .ok (.iadd, 1) := by decide +kernel
theorem dX12_isTaken_91 : decode cX12_isTaken 91 = .ok (.iaload, 1) := by decide +kernel
theorem dX12_isTaken_92 : decode cX12_isTaken 92 = .ok (.iload 7, 2) := by decide +kernel
theorem dX12_isTaken_94 : decode cX12_isTaken 94 = .ok (.ifCond .eq 7, 3) := by decide +kernel
theorem dX12_isTaken_97 : decode cX12_isTaken 97 = .ok (.iload_n 2, 1) := by decide +kernel
theorem dX12_isTaken_98 : decode cX12_isTaken 98 = .ok (.goto 4, 3) := by decide +kernel
theorem dX12_isTaken_101 : decode cX12_isTaken 101 = .ok (.iload_n 1, 1) := by decide +kernel
theorem dX12_isTaken_102 : decode cX12_isTaken 102 = .ok (.iload 7, 2) := by decide +kernel
theorem dX12_isTaken_104 : decode cX12_isTaken 104 = .ok (.ifCond .eq 7, 3) := by decide +kernel
theorem dX12_isTaken_107 : decode cX12_isTaken 107 = .ok (.iload_n 1, 1) := by decide +kernel
theorem dX12_isTaken_108 : decode cX12_isTaken 108 = .ok (.goto 4, 3) := by decide +kernel
theorem dX12_isTaken_111 : decode cX12_isTaken 111 = .ok (.iload_n 2, 1) := by decide +kernel
theorem dX12_isTaken_112 : decode cX12_isTaken 112 = .ok (.iload 7, 2) := by decide +kernel
theorem dX12_isTaken_114 : decode cX12_isTaken 114 = .ok (.ifCond .eq 8, 3) := by decide +kernel
theorem dX12_isTaken_117 : decode cX12_isTaken 117 = .ok (.iload 9, 2) := by decide +kernel
theorem dX12_isTaken_119 : decode cX12_isTaken 119 = .ok (.goto 5, 3) := by decide +kernel
theorem dX12_isTaken_122 : decode cX12_isTaken 122 = .ok (.iload 8, 2) := by decide +kernel
theorem dX12_isTaken_124 : decode cX12_isTaken 124 = .ok (.iload 7, 2) := by decide +kernel
theorem dX12_isTaken_126 : decode cX12_isTaken 126 = .ok (.ifCond .eq 8, 3) := by decide +kernel
theorem dX12_isTaken_129 : decode cX12_isTaken 129 = .ok (.iload 8, 2) := by decide +kernel
theorem dX12_isTaken_131 : decode cX12_isTaken 131 = .ok (.goto 5, 3) := by decide +kernel
theorem dX12_isTaken_134 : decode cX12_isTaken 134 = .ok (.iload 9, 2) := by decide +kernel
theorem dX12_isTaken_136 : decode cX12_isTaken 136 = .ok (.invokestatic 67, 3) := by decide +kernel
theorem dX12_isTaken_139 : decode cX12_isTaken 139 = .ok (.ifCond .eq 7, 3) := by decide +kernel
theorem dX12_isTaken_142 : decode cX12_isTaken 142 = .ok (.iconst 1, 1) := by decide +kernel
theorem dX12_isTaken_143 : decode cX12_isTaken 143 = .ok (.goto 4, 3) := by decide +kernel
theorem dX12_isTaken_146 : decode cX12_isTaken 146 = .ok (.iconst 0, 1) := by decide +kernel
theorem dX12_isTaken_147 : decode cX12_isTaken 147 = .ok (.istore 4, 2) := by decide +kernel
theorem dX12_isTaken_149 : decode cX12_isTaken 149 = .ok (.iinc 5 1, 3) := by decide +kernel
theorem dX12_isTaken_152 : decode cX12_isTaken 152 = .ok (.goto (-146), 3) := by decide +kernel
theorem dX12_isTaken_155 : decode cX12_isTaken 155 = .ok (.iload 4, 2) := by decide +kernel
theorem dX12_isTaken_157 : decode cX12_isTaken 157 = .ok (.ireturn, 1) := by decide +kernel
theorem dX12_mirroredX_0 : decode cX12_mirroredX 0 = .ok (.bipush 94, 2) := by decide +kernel
theorem dX12_mirroredX_2 : decode cX12_mirroredX 2 = .ok (.iconst 3, 1) := by decide +kernel
theorem dX12_mirroredX_3 : decode cX12_mirroredX 3 = .ok (.iload_n 1, 1) := by decide +kernel
theorem dX12_mirroredX_4 : decode cX12_mirroredX 4 = .ok (.imul, 1) := by decide +kernel
theorem dX12_mirroredX_5 : decode cX12_mirroredX 5 = .ok (.iadd, 1) := by decide +kernel
theorem dX12_mirroredX_6 : decode cX12_mirroredX 6 = .ok (.istore_n 3, 1) := by decide +kernel
theorem dX12_mirroredX_7 : decode cX12_mirroredX 7 = .ok (.aload_n 0, 1) := by decide +kernel
theorem dX12_mirroredX_8 : decode cX12_mirroredX 8 = .ok (.getfield 7, 3) := by decide +kernel
theorem dX12_mirroredX_11 : decode cX12_mirroredX 11 = .ok (.iload_n 3, 1) := by decide +kernel
theorem dX12_mirroredX_12 : decode cX12_mirroredX 12 = .ok (.iaload, 1) := by decide +kernel
theorem dX12_mirroredX_13 : decode cX12_mirroredX 13 = .ok (.ifCond .ne 18, 3) := by decide +kernel
theorem dX12_mirroredX_16 : decode cX12_mirroredX 16 = .ok (.iconst 2, 1) := by decide +kernel
theorem dX12_mirroredX_17 : decode cX12_mirroredX 17 = .ok (.aload_n 0, 1) := by decide +kernel
theorem dX12_mirroredX_18 : decode cX12_mirroredX 18 = .ok (.getfield 7, 3) := by decide +kernel
theorem dX12_mirroredX_21 : decode cX12_mirroredX 21 = .ok (.iload_n 3, 1) := by decide +kernel
theorem dX12_mirroredX_22 : decode cX12_mirroredX 22 = .ok (.iconst 1, 1) := by decide +kernel
theorem dX12_mirroredX_23 : decode cX12_mirroredX 23 = .ok (.iadd, 1) := by decide +kernel
theorem dX12_mirroredX_24 : decode cX12_mirroredX 24 = .ok (.iaload, 1) := by decide +kernel
theorem dX12_mirroredX_25 : decode cX12_mirroredX 25 = .ok (.imul, 1) := by decide +kernel
theorem dX12_mirroredX_26 : decode cX12_mirroredX 26 = .ok (.iload_n 2, 1) := by decide +kernel
theorem dX12_mirroredX_27 : decode cX12_mirroredX 27 = .ok (.isub, 1) := by decide +kernel
theorem dX12_mirroredX_28 : decode cX12_mirroredX 28 = .ok (.goto 4, 3) := by decide +kernel
theorem dX12_mirroredX_31 : decode cX12_mirroredX 31 = .ok (.iload_n 2, 1) := by decide +kernel
theorem dX12_mirroredX_32 : decode cX12_mirroredX 32 = .ok (.ireturn, 1) := by decide +kernel
theorem dX12_mirroredY_0 : decode cX12_mirroredY 0 = .ok (.bipush 94, 2) := by decide +kernel
theorem dX12_mirroredY_2 : decode cX12_mirroredY 2 = .ok (.iconst 3, 1) := by decide +kernel
theorem dX12_mirroredY_3 : decode cX12_mirroredY 3 = .ok (.iload_n 1, 1) := by decide +kernel
theorem dX12_mirroredY_4 : decode cX12_mirroredY 4 = .ok (.imul, 1) := by decide +kernel
theorem dX12_mirroredY_5 : decode cX12_mirroredY 5 = .ok (.iadd, 1) := by decide +kernel
theorem dX12_mirroredY_6 : decode cX12_mirroredY 6 = .ok (.istore_n 3, 1) := by decide +kernel
theorem dX12_mirroredY_7 : decode cX12_mirroredY 7 = .ok (.aload_n 0, 1) := by decide +kernel
theorem dX12_mirroredY_8 : decode cX12_mirroredY 8 = .ok (.getfield 7, 3) := by decide +kernel
theorem dX12_mirroredY_11 : decode cX12_mirroredY 11 = .ok (.iload_n 3, 1) := by decide +kernel
theorem dX12_mirroredY_12 : decode cX12_mirroredY 12 = .ok (.iaload, 1) := by decide +kernel
theorem dX12_mirroredY_13 : decode cX12_mirroredY 13 = .ok (.iconst 1, 1) := by decide +kernel
theorem dX12_mirroredY_14 : decode cX12_mirroredY 14 = .ok (.if_icmp .ne 18, 3) := by decide +kernel
theorem dX12_mirroredY_17 : decode cX12_mirroredY 17 = .ok (.iconst 2, 1) := by decide +kernel
theorem dX12_mirroredY_18 : decode cX12_mirroredY 18 = .ok (.aload_n 0, 1) := by decide +kernel
theorem dX12_mirroredY_19 : decode cX12_mirroredY 19 = .ok (.getfield 7, 3) := by decide +kernel
theorem dX12_mirroredY_22 : decode cX12_mirroredY 22 = .ok (.iload_n 3, 1) := by decide +kernel
theorem dX12_mirroredY_23 : decode cX12_mirroredY 23 = .ok (.iconst 1, 1) := by decide +kernel
theorem dX12_mirroredY_24 : decode cX12_mirroredY 24 = .ok (.iadd, 1) := by decide +kernel
theorem dX12_mirroredY_25 : decode cX12_mirroredY 25 = .ok (.iaload, 1) := by decide +kernel
theorem dX12_mirroredY_26 : decode cX12_mirroredY 26 = .ok (.imul, 1) := by decide +kernel
theorem dX12_mirroredY_27 : decode cX12_mirroredY 27 = .ok (.iload_n 2, 1) := by decide +kernel
theorem dX12_mirroredY_28 : decode cX12_mirroredY 28 = .ok (.isub, 1) := by decide +kernel
theorem dX12_mirroredY_29 : decode cX12_mirroredY 29 = .ok (.goto 4, 3) := by decide +kernel
theorem dX12_mirroredY_32 : decode cX12_mirroredY 32 = .ok (.iload_n 2, 1) := by decide +kernel
theorem dX12_mirroredY_33 : decode cX12_mirroredY 33 = .ok (.ireturn, 1) := by decide +kernel
theorem dX12_weaker_0 : decode cX12_weaker 0 = .ok (.iload_n 2, 1) := by decide +kernel
theorem dX12_weaker_1 : decode cX12_weaker 1 = .ok (.ldc 71, 2) := by decide +kernel
theorem dX12_weaker_3 : decode cX12_weaker 3 = .ok (.if_icmp .ne 7, 3) := by decide +kernel
theorem dX12_weaker_6 : decode cX12_weaker 6 = .ok (.iload_n 1, 1) := by decide +kernel
theorem dX12_weaker_7 : decode cX12_weaker 7 = .ok (.goto 24, 3) := by decide +kernel
theorem dX12_weaker_10 : decode cX12_weaker 10 = .ok (.iload_n 1, 1) := by decide +kernel
theorem dX12_weaker_11 : decode cX12_weaker 11 = .ok (.bipush 100, 2) := by decide +kernel
theorem dX12_weaker_13 : decode cX12_weaker 13 = .ok (.aload_n 0, 1) := by decide +kernel
theorem dX12_weaker_14 : decode cX12_weaker 14 = .ok (.getfield 7, 3) := by decide +kernel
theorem dX12_weaker_17 : decode cX12_weaker 17 = .ok (.bipush 94, 2) := by decide +kernel
theorem dX12_weaker_19 : decode cX12_weaker 19 = .ok (.iconst 3, 1) := by decide +kernel
theorem dX12_weaker_20 : decode cX12_weaker 20 = .ok (.iload_n 2, 1) := by decide +kernel
theorem dX12_weaker_21 : decode cX12_weaker 21 = .ok (.imul, 1) := by decide +kernel
theorem dX12_weaker_22 : decode cX12_weaker 22 = .ok (.iadd, 1) := by decide +kernel
theorem dX12_weaker_23 : decode cX12_weaker 23 = .ok (.iconst 2, 1) := by decide +kernel
theorem dX12_weaker_24 : decode cX12_weaker 24 = .ok (.iadd, 1) := by decide +kernel
theorem dX12_weaker_25 : decode cX12_weaker 25 = .ok (.iaload, 1) := by decide +kernel
theorem dX12_weaker_26 : decode cX12_weaker 26 = .ok (.isub, 1) := by decide +kernel
theorem dX12_weaker_27 : decode cX12_weaker 27 = .ok (.imul, 1) := by decide +kernel
theorem dX12_weaker_28 : decode cX12_weaker 28 = .ok (.bipush 100, 2) := by decide +kernel
theorem dX12_weaker_30 : decode cX12_weaker 30 = .ok (.idiv, 1) := by decide +kernel
theorem dX12_weaker_31 : decode cX12_weaker 31 = .ok (.ireturn, 1) := by decide +kernel
set_option maxRecDepth 20000 in
theorem ggX12_adds_X12_wayTo : GoodIn wsX12_adds wsX12_wayTo := goodIn_r _ [12, 13, 14, 15, 11, 16, 17, 18, 19, 20, 26, 27, 28, 29, 30, 31, 32, 33, 34, 35, 36, 37, 38, 39, 40, 41, 42, 43, 44, 45, 46, 47, 48] (by decide +kernel) (by decide +kernel)
set_option maxRecDepth 20000 in
theorem gX12_adds_X12_wayTo : GoodIn wsX12_adds (wsV RX12 75 RX12 yX12_wayTo wsX12_wayTo) := goodIn_app (goodIn_of _ (by decide +kernel)) ggX12_adds_X12_wayTo
set_option maxRecDepth 20000 in
theorem ggX12_adds_X12_weaker : GoodIn wsX12_adds wsX12_weaker := goodIn_r _ [24, 25, 17, 26, 27, 28, 29, 30, 31, 32, 33, 34, 35, 36, 37, 38, 39, 40, 41, 42, 43, 44, 45, 46, 47, 48] (by decide +kernel) (by decide +kernel)
set_option maxRecDepth 20000 in
theorem gX12_adds_X12_weaker : GoodIn wsX12_adds (wsV RX12 80 RX12 yX12_weaker wsX12_weaker) := goodIn_app (goodIn_of _ (by decide +kernel)) ggX12_adds_X12_weaker
theorem dX12_adds_0 : decode cX12_adds 0 = .ok (.aload_n 0, 1) := by decide +kernel
theorem dX12_adds_1 : decode cX12_adds 1 = .ok (.getfield 22, 3) := by decide +kernel
theorem dX12_adds_4 : decode cX12_adds 4 = .ok (.aload_n 0, 1) := by decide +kernel
theorem dX12_adds_5 : decode cX12_adds 5 = .ok (.getfield 72, 3) := by decide +kernel
theorem dX12_adds_8 : decode cX12_adds 8 = .ok (.iload_n 2, 1) := by decide +kernel
theorem dX12_adds_9 : decode cX12_adds 9 = .ok (.iastore, 1) := by decide +kernel
theorem dX12_adds_10 : decode cX12_adds 10 = .ok (.aload_n 0, 1) := by decide +kernel
theorem dX12_adds_11 : decode cX12_adds 11 = .ok (.getfield 25, 3) := by decide +kernel
theorem dX12_adds_14 : decode cX12_adds 14 = .ok (.aload_n 0, 1) := by decide +kernel
theorem dX12_adds_15 : decode cX12_adds 15 = .ok (.getfield 72, 3) := by decide +kernel
theorem dX12_adds_18 : decode cX12_adds 18 = .ok (.aload_n 0, 1) := by decide +kernel
theorem dX12_adds_19 : decode cX12_adds 19 = .ok (.iload_n 3, 1) := by decide +kernel
theorem dX12_adds_20 : decode cX12_adds 20 = .ok (.iload 4, 2) := by decide +kernel
theorem dX12_adds_22 : decode cX12_adds 22 = .ok (.iload_n 1, 1) := by decide +kernel
theorem dX12_adds_23 : decode cX12_adds 23 = .ok (.invokevirtual 75, 3) := by decide +kernel
theorem dX12_adds_26 : decode cX12_adds 26 = .ok (.iastore, 1) := by decide +kernel
theorem dX12_adds_27 : decode cX12_adds 27 = .ok (.aload_n 0, 1) := by decide +kernel
theorem dX12_adds_28 : decode cX12_adds 28 = .ok (.getfield 28, 3) := by decide +kernel
theorem dX12_adds_31 : decode cX12_adds 31 = .ok (.aload_n 0, 1) := by decide +kernel
theorem dX12_adds_32 : decode cX12_adds 32 = .ok (.getfield 72, 3) := by decide +kernel
theorem dX12_adds_35 : decode cX12_adds 35 = .ok (.aload_n 0, 1) := by decide +kernel
theorem dX12_adds_36 : decode cX12_adds 36 = .ok (.aload_n 0, 1) := by decide +kernel
theorem dX12_adds_37 : decode cX12_adds 37 = .ok (.ldc 79, 2) := by decide +kernel
theorem dX12_adds_39 : decode cX12_adds 39 = .ok (.aload_n 0, 1) := by decide +kernel
theorem dX12_adds_40 : decode cX12_adds 40 = .ok (.getfield 25, 3) := by decide +kernel
theorem dX12_adds_43 : decode cX12_adds 43 = .ok (.aload_n 0, 1) := by decide +kernel
theorem dX12_adds_44 : decode cX12_adds 44 = .ok (.getfield 72, 3) := by decide +kernel
theorem dX12_adds_47 : decode cX12_adds 47 = .ok (.iaload, 1) := by decide +kernel
theorem dX12_adds_48 : decode cX12_adds 48 = .ok (.bipush 100, 2) := by decide +kernel
theorem dX12_adds_50 : decode cX12_adds 50 = .ok (.iadd, 1) := by decide +kernel
theorem dX12_adds_51 : decode cX12_adds 51 = .ok (.idiv, 1) := by decide +kernel
theorem dX12_adds_52 : decode cX12_adds 52 = .ok (.iload 5, 2) := by decide +kernel
theorem dX12_adds_54 : decode cX12_adds 54 = .ok (.invokevirtual 80, 3) := by decide +kernel
theorem dX12_adds_57 : decode cX12_adds 57 = .ok (.iload 6, 2) := by decide +kernel
theorem dX12_adds_59 : decode cX12_adds 59 = .ok (.invokevirtual 80, 3) := by decide +kernel
theorem dX12_adds_62 : decode cX12_adds 62 = .ok (.iastore, 1) := by decide +kernel
theorem dX12_adds_63 : decode cX12_adds 63 = .ok (.aload_n 0, 1) := by decide +kernel
theorem dX12_adds_64 : decode cX12_adds 64 = .ok (.getfield 31, 3) := by decide +kernel
theorem dX12_adds_67 : decode cX12_adds 67 = .ok (.aload_n 0, 1) := by decide +kernel
theorem dX12_adds_68 : decode cX12_adds 68 = .ok (.getfield 72, 3) := by decide +kernel
theorem dX12_adds_71 : decode cX12_adds 71 = .ok (.iload 5, 2) := by decide +kernel
theorem dX12_adds_73 : decode cX12_adds 73 = .ok (.iastore, 1) := by decide +kernel
theorem dX12_adds_74 : decode cX12_adds 74 = .ok (.aload_n 0, 1) := by decide +kernel
theorem dX12_adds_75 : decode cX12_adds 75 = .ok (.getfield 34, 3) := by decide +kernel
theorem dX12_adds_78 : decode cX12_adds 78 = .ok (.aload_n 0, 1) := by decide +kernel
theorem dX12_adds_79 : decode cX12_adds 79 = .ok (.getfield 72, 3) := by decide +kernel
theorem dX12_adds_82 : decode cX12_adds 82 = .ok (.iload 6, 2) := by decide +kernel
theorem dX12_adds_84 : decode cX12_adds 84 = .ok (.iastore, 1) := by decide +kernel
theorem dX12_adds_85 : decode cX12_adds 85 = .ok (.aload_n 0, 1) := by decide +kernel
theorem dX12_adds_86 : decode cX12_adds 86 = .ok (.dup, 1) := by decide +kernel
theorem dX12_adds_87 : decode cX12_adds 87 = .ok (.getfield 72, 3) := by decide +kernel
theorem dX12_adds_90 : decode cX12_adds 90 = .ok (.iconst 1, 1) := by decide +kernel
theorem dX12_adds_91 : decode cX12_adds 91 = .ok (.iadd, 1) := by decide +kernel
theorem dX12_adds_92 : decode cX12_adds 92 = .ok (.putfield 72, 3) := by decide +kernel
theorem dX12_adds_95 : decode cX12_adds 95 = .ok (.return_, 1) := by decide +kernel
set_option maxRecDepth 20000 in
theorem ggX12_lists_X12_isTaken : GoodIn wsX12_lists wsX12_isTaken := goodIn_r _ [8, 3, 9, 10, 11, 7, 12, 13, 14, 15, 45, 46, 47, 48, 49, 50, 51, 52, 53, 54, 55, 56, 57, 58, 59, 60, 61, 62, 63, 64, 65, 66, 67] (by decide +kernel) (by decide +kernel)
set_option maxRecDepth 20000 in
theorem gX12_lists_X12_isTaken : GoodIn wsX12_lists (wsV RX12 83 RX12 yX12_isTaken wsX12_isTaken) := goodIn_app (goodIn_of _ (by decide +kernel)) ggX12_lists_X12_isTaken
set_option maxRecDepth 20000 in
theorem ggX12_lists_X12_adds : GoodIn wsX12_lists wsX12_adds := goodIn_r _ [19, 20, 1, 21, 22, 23, 24, 25, 26, 27, 28, 7, 29, 9, 10, 11, 12, 3, 30, 31, 32, 33, 34, 35, 36, 2, 45, 46, 47, 48, 49, 50, 51, 52, 53, 54, 55, 56, 57, 58, 59, 60, 61, 62, 63, 64, 65, 66, 67] (by decide +kernel) (by decide +kernel)
set_option maxRecDepth 20000 in
theorem gX12_lists_X12_adds : GoodIn wsX12_lists (wsV RX12 87 RX12 yX12_adds wsX12_adds) := goodIn_app (goodIn_of _ (by decide +kernel)) ggX12_lists_X12_adds
set_option maxRecDepth 20000 in
theorem ggX12_lists_X12_mirroredX : GoodIn wsX12_lists wsX12_mirroredX := goodIn_r _ [40, 3, 45, 46, 47, 48, 49, 50, 51, 52, 53, 54, 55, 56, 57, 58, 59, 60, 61, 62, 63, 64, 65, 66, 67] (by decide +kernel) (by decide +kernel)
set_option maxRecDepth 20000 in
theorem gX12_lists_X12_mirroredX : GoodIn wsX12_lists (wsV RX12 91 RX12 yX12_mirroredX wsX12_mirroredX) := goodIn_app (goodIn_of _ (by decide +kernel)) ggX12_lists_X12_mirroredX
set_option maxRecDepth 20000 in
theorem ggX12_lists_X12_mirroredY : GoodIn wsX12_lists wsX12_mirroredY := goodIn_r _ [44, 3, 45, 46, 47, 48, 49, 50, 51, 52, 53, 54, 55, 56, 57, 58, 59, 60, 61, 62, 63, 64, 65, 66, 67] (by decide +kernel) (by decide +kernel)
set_option maxRecDepth 20000 in
theorem gX12_lists_X12_mirroredY : GoodIn wsX12_lists (wsV RX12 94 RX12 yX12_mirroredY wsX12_mirroredY) := goodIn_app (goodIn_of _ (by decide +kernel)) ggX12_lists_X12_mirroredY
theorem dX12_lists_0 : decode cX12_lists 0 = .ok (.aload_n 0, 1) := by decide +kernel
theorem dX12_lists_1 : decode cX12_lists 1 = .ok (.iconst 0, 1) := by decide +kernel
theorem dX12_lists_2 : decode cX12_lists 2 = .ok (.putfield 72, 3) := by decide +kernel
theorem dX12_lists_5 : decode cX12_lists 5 = .ok (.aload_n 0, 1) := by decide +kernel
theorem dX12_lists_6 : decode cX12_lists 6 = .ok (.iload_n 1, 1) := by decide +kernel
theorem dX12_lists_7 : decode cX12_lists 7 = .ok (.iload_n 2, 1) := by decide +kernel
theorem dX12_lists_8 : decode cX12_lists 8 = .ok (.iload_n 3, 1) := by decide +kernel
theorem dX12_lists_9 : decode cX12_lists 9 = .ok (.invokevirtual 83, 3) := by decide +kernel
theorem dX12_lists_12 : decode cX12_lists 12 = .ok (.ifCond .ne 15, 3) := by decide +kernel
theorem dX12_lists_15 : decode cX12_lists 15 = .ok (.aload_n 0, 1) := by decide +kernel
theorem dX12_lists_16 : decode cX12_lists 16 = .ok (.iload_n 3, 1) := by decide +kernel
theorem dX12_lists_17 : decode cX12_lists 17 = .ok (.iconst 0, 1) := by decide +kernel
theorem dX12_lists_18 : decode cX12_lists 18 = .ok (.iload_n 1, 1) := by decide +kernel
theorem dX12_lists_19 : decode cX12_lists 19 = .ok (.iload_n 2, 1) := by decide +kernel
theorem dX12_lists_20 : decode cX12_lists 20 = .ok (.ldc 71, 2) := by decide +kernel
theorem dX12_lists_22 : decode cX12_lists 22 = .ok (.ldc 71, 2) := by decide +kernel
theorem dX12_lists_24 : decode cX12_lists 24 = .ok (.invokevirtual 87, 3) := by decide +kernel
theorem dX12_lists_27 : decode cX12_lists 27 = .ok (.aload_n 0, 1) := by decide +kernel
theorem dX12_lists_28 : decode cX12_lists 28 = .ok (.getfield 7, 3) := by decide +kernel
theorem dX12_lists_31 : decode cX12_lists 31 = .ok (.iconst 3, 1) := by decide +kernel
theorem dX12_lists_32 : decode cX12_lists 32 = .ok (.iaload, 1) := by decide +kernel
theorem dX12_lists_33 : decode cX12_lists 33 = .ok (.istore 4, 2) := by decide +kernel
theorem dX12_lists_35 : decode cX12_lists 35 = .ok (.iconst 0, 1) := by decide +kernel
theorem dX12_lists_36 : decode cX12_lists 36 = .ok (.istore 5, 2) := by decide +kernel
theorem dX12_lists_38 : decode cX12_lists 38 = .ok (.iload 5, 2) := by decide +kernel
theorem dX12_lists_40 : decode cX12_lists 40 = .ok (.iload 4, 2) := by decide +kernel
theorem dX12_lists_42 : decode cX12_lists 42 = .ok (.if_icmp .ge 33, 3) := by decide +kernel
theorem dX12_lists_45 : decode cX12_lists 45 = .ok (.aload_n 0, 1) := by decide +kernel
theorem dX12_lists_46 : decode cX12_lists 46 = .ok (.iload_n 3, 1) := by decide +kernel
theorem dX12_lists_47 : decode cX12_lists 47 = .ok (.iconst 1, 1) := by decide +kernel
theorem dX12_lists_48 : decode cX12_lists 48 = .ok (.aload_n 0, 1) := by decide +kernel
theorem dX12_lists_49 : decode cX12_lists 49 = .ok (.iload 5, 2) := by decide +kernel
theorem dX12_lists_51 : decode cX12_lists 51 = .ok (.iload_n 1, 1) := by decide +kernel
theorem dX12_lists_52 : decode cX12_lists 52 = .ok (.invokevirtual 91, 3) := by decide +kernel
theorem dX12_lists_55 : decode cX12_lists 55 = .ok (.aload_n 0, 1) := by decide +kernel
theorem dX12_lists_56 : decode cX12_lists 56 = .ok (.iload 5, 2) := by decide +kernel
theorem dX12_lists_58 : decode cX12_lists 58 = .ok (.iload_n 2, 1) := by decide +kernel
theorem dX12_lists_59 : decode cX12_lists 59 = .ok (.invokevirtual 94, 3) := by decide +kernel
theorem dX12_lists_62 : decode cX12_lists 62 = .ok (.iload 5, 2) := by decide +kernel
theorem dX12_lists_64 : decode cX12_lists 64 = .ok (.ldc 71, 2) := by decide +kernel
theorem dX12_lists_66 : decode cX12_lists 66 = .ok (.invokevirtual 87, 3) := by decide +kernel
theorem dX12_lists_69 : decode cX12_lists 69 = .ok (.iinc 5 1, 3) := by decide +kernel
theorem dX12_lists_72 : decode cX12_lists 72 = .ok (.goto (-34), 3) := by decide +kernel
theorem dX12_lists_75 : decode cX12_lists 75 = .ok (.iconst 0, 1) := by decide +kernel
theorem dX12_lists_76 : decode cX12_lists 76 = .ok (.istore 5, 2) := by decide +kernel
theorem dX12_lists_78 : decode cX12_lists 78 = .ok (.iload 5, 2) := by decide +kernel
theorem dX12_lists_80 : decode cX12_lists 80 = .ok (.iload 4, 2) := by decide +kernel
theorem dX12_lists_82 : decode cX12_lists 82 = .ok (.iload 4, 2) := by decide +kernel
theorem dX12_lists_84 : decode cX12_lists 84 = .ok (.imul, 1) := by decide +kernel
theorem dX12_lists_85 : decode cX12_lists 85 = .ok (.if_icmp .ge 77, 3) := by decide +kernel
theorem dX12_lists_88 : decode cX12_lists 88 = .ok (.aload_n 0, 1) := by decide +kernel
theorem dX12_lists_89 : decode cX12_lists 89 = .ok (.getfield 7, 3) := by decide +kernel
theorem dX12_lists_92 : decode cX12_lists 92 = .ok (.bipush 8, 2) := by decide +kernel
theorem dX12_lists_94 : decode cX12_lists 94 = .ok (.iaload, 1) := by decide +kernel
theorem dX12_lists_95 : decode cX12_lists 95 = .ok (.iconst 2, 1) := by decide +kernel
theorem dX12_lists_96 : decode cX12_lists 96 = .ok (.if_icmp .ne 66, 3) := by decide +kernel
theorem dX12_lists_99 : decode cX12_lists 99 = .ok (.iload 5, 2) := by decide +kernel
theorem dX12_lists_101 : decode cX12_lists 101 = .ok (.iload 4, 2) := by decide +kernel
theorem dX12_lists_103 : decode cX12_lists 103 = .ok (.idiv, 1) := by decide +kernel
theorem dX12_lists_104 : decode cX12_lists 104 = .ok (.istore 6, 2) := by decide +kernel
theorem dX12_lists_106 : decode cX12_lists 106 = .ok (.iload 5, 2) := by decide +kernel
theorem dX12_lists_108 : decode cX12_lists 108 = .ok (.iload 4, 2) := by decide +kernel
theorem dX12_lists_110 : decode cX12_lists 110 = .ok (.irem, 1) := by decide +kernel
theorem dX12_lists_111 : decode cX12_lists 111 = .ok (.istore 7, 2) := by decide +kernel
theorem dX12_lists_113 : decode cX12_lists 113 = .ok (.iload 6, 2) := by decide +kernel
theorem dX12_lists_115 : decode cX12_lists 115 = .ok (.iload 7, 2) := by decide +kernel
theorem dX12_lists_117 : decode cX12_lists 117 = .ok (.if_icmp .eq 39, 3) := by decide +kernel
theorem dX12_lists_120 : decode cX12_lists 120 = .ok (.aload_n 0, 1) := by decide +kernel
theorem dX12_lists_121 : decode cX12_lists 121 = .ok (.iload_n 3, 1) := by decide +kernel
theorem dX12_lists_122 : decode cX12_lists 122 = .ok (.iconst 2, 1) := by decide +kernel
theorem dX12_lists_123 : decode cX12_lists 123 = .ok (.aload_n 0, 1) := by decide +kernel
theorem dX12_lists_124 : decode cX12_lists 124 = .ok (.iload 7, 2) := by decide +kernel
theorem dX12_lists_126 : decode cX12_lists 126 = .ok (.aload_n 0, 1) := by decide +kernel
theorem dX12_lists_127 : decode cX12_lists 127 = .ok (.iload 6, 2) := by decide +kernel
theorem dX12_lists_129 : decode cX12_lists 129 = .ok (.iload_n 1, 1) := by decide +kernel
theorem dX12_lists_130 : decode cX12_lists 130 = .ok (.invokevirtual 91, 3) := by decide +kernel
theorem dX12_lists_133 : decode cX12_lists 133 = .ok (.invokevirtual 91, 3) := by decide +kernel
theorem dX12_lists_136 : decode cX12_lists 136 = .ok (.aload_n 0, 1) := by decide +kernel
theorem dX12_lists_137 : decode cX12_lists 137 = .ok (.iload 7, 2) := by decide +kernel
theorem dX12_lists_139 : decode cX12_lists 139 = .ok (.aload_n 0, 1) := by decide +kernel
theorem dX12_lists_140 : decode cX12_lists 140 = .ok (.iload 6, 2) := by decide +kernel
theorem dX12_lists_142 : decode cX12_lists 142 = .ok (.iload_n 2, 1) := by decide +kernel
theorem dX12_lists_143 : decode cX12_lists 143 = .ok (.invokevirtual 94, 3) := by decide +kernel
theorem dX12_lists_146 : decode cX12_lists 146 = .ok (.invokevirtual 94, 3) := by decide +kernel
theorem dX12_lists_149 : decode cX12_lists 149 = .ok (.iload 6, 2) := by decide +kernel
theorem dX12_lists_151 : decode cX12_lists 151 = .ok (.iload 7, 2) := by decide +kernel
theorem dX12_lists_153 : decode cX12_lists 153 = .ok (.invokevirtual 87, 3) := by decide +kernel
theorem dX12_lists_156 : decode cX12_lists 156 = .ok (.iinc 5 1, 3) := by decide +kernel
theorem dX12_lists_159 : decode cX12_lists 159 = .ok (.goto (-81), 3) := by decide +kernel
theorem dX12_lists_162 : decode cX12_lists 162 = .ok (.return_, 1) := by decide +kernel
theorem dX12_drawn_0 : decode cX12_drawn 0 = .ok (.aload_n 0, 1) := by decide +kernel
theorem dX12_drawn_1 : decode cX12_drawn 1 = .ok (.getfield 7, 3) := by decide +kernel
theorem dX12_drawn_4 : decode cX12_drawn 4 = .ok (.bipush 6, 2) := by decide +kernel
theorem dX12_drawn_6 : decode cX12_drawn 6 = .ok (.ldc2_w 97, 3) := by decide +kernel
theorem dX12_drawn_9 : decode cX12_drawn 9 = .ok (.aload_n 0, 1) := by decide +kernel
theorem dX12_drawn_10 : decode cX12_drawn 10 = .ok (.getfield 7, 3) := by decide +kernel
theorem dX12_drawn_13 : decode cX12_drawn 13 = .ok (.bipush 6, 2) := by decide +kernel
theorem dX12_drawn_15 : decode cX12_drawn 15 = .ok (.iaload, 1) := by decide +kernel
theorem dX12_drawn_16 : decode cX12_drawn 16 = .ok (.i2l, 1) := by decide +kernel
theorem dX12_drawn_17 : decode cX12_drawn 17 = .ok (.lmul, 1) := by decide +kernel
theorem dX12_drawn_18 : decode cX12_drawn 18 = .ok (.ldc2_w 99, 3) := by decide +kernel
theorem dX12_drawn_21 : decode cX12_drawn 21 = .ok (.ladd, 1) := by decide +kernel
theorem dX12_drawn_22 : decode cX12_drawn 22 = .ok (.ldc2_w 101, 3) := by decide +kernel
theorem dX12_drawn_25 : decode cX12_drawn 25 = .ok (.land, 1) := by decide +kernel
theorem dX12_drawn_26 : decode cX12_drawn 26 = .ok (.l2i, 1) := by decide +kernel
theorem dX12_drawn_27 : decode cX12_drawn 27 = .ok (.iastore, 1) := by decide +kernel
theorem dX12_drawn_28 : decode cX12_drawn 28 = .ok (.aload_n 0, 1) := by decide +kernel
theorem dX12_drawn_29 : decode cX12_drawn 29 = .ok (.getfield 7, 3) := by decide +kernel
theorem dX12_drawn_32 : decode cX12_drawn 32 = .ok (.bipush 6, 2) := by decide +kernel
theorem dX12_drawn_34 : decode cX12_drawn 34 = .ok (.iaload, 1) := by decide +kernel
theorem dX12_drawn_35 : decode cX12_drawn 35 = .ok (.bipush 16, 2) := by decide +kernel
theorem dX12_drawn_37 : decode cX12_drawn 37 = .ok (.ishr, 1) := by decide +kernel
theorem dX12_drawn_38 : decode cX12_drawn 38 = .ok (.iload_n 1, 1) := by decide +kernel
theorem dX12_drawn_39 : decode cX12_drawn 39 = .ok (.irem, 1) := by decide +kernel
theorem dX12_drawn_40 : decode cX12_drawn 40 = .ok (.ireturn, 1) := by decide +kernel
set_option maxRecDepth 20000 in
theorem ggX12_notes_X12_lists : GoodIn wsX12_notes wsX12_lists := goodIn_r _ [13, 2, 1, 3, 14, 15, 16, 12, 17, 18, 19, 20, 21, 22, 23, 24, 25, 26, 27, 28, 6, 4, 5, 29, 7, 8, 30, 31, 32, 33, 34, 35, 36, 37, 38, 39, 40, 41, 42, 43, 44, 45, 46, 47, 48, 64, 65, 66, 67, 68, 69, 70, 71, 72, 73, 74, 75, 76, 77, 78, 79, 80, 81, 82, 83, 84, 85, 86] (by decide +kernel) (by decide +kernel)
set_option maxRecDepth 20000 in
theorem gX12_notes_X12_lists : GoodIn wsX12_notes (wsV RX12 103 RX12 yX12_lists wsX12_lists) := goodIn_app (goodIn_of _ (by decide +kernel)) ggX12_notes_X12_lists
set_option maxRecDepth 20000 in
theorem ggX12_notes_X12_drawn : GoodIn wsX12_notes wsX12_drawn := goodIn_r _ [52, 3, 53, 54, 55, 64, 65, 66, 67, 68, 69, 70, 71, 72, 73, 74, 75, 76, 77, 78, 79, 80, 81, 82, 83, 84, 85, 86] (by decide +kernel) (by decide +kernel)
set_option maxRecDepth 20000 in
theorem gX12_notes_X12_drawn : GoodIn wsX12_notes (wsV RX12 107 RX12 yX12_drawn wsX12_drawn) := goodIn_app (goodIn_of _ (by decide +kernel)) ggX12_notes_X12_drawn
set_option maxRecDepth 20000 in
theorem ggX12_notes_X12_timeOf : GoodIn wsX12_notes wsX12_timeOf := goodIn_r _ [59, 3, 64, 65, 66, 67, 68, 69, 70, 71, 72, 73, 74, 75, 76, 77, 78, 79, 80, 81, 82, 83, 84, 85, 86] (by decide +kernel) (by decide +kernel)
set_option maxRecDepth 20000 in
theorem gX12_notes_X12_timeOf : GoodIn wsX12_notes (wsV RX12 110 RX12 yX12_timeOf wsX12_timeOf) := goodIn_app (goodIn_of _ (by decide +kernel)) ggX12_notes_X12_timeOf
set_option maxRecDepth 20000 in
theorem ggX12_notes_X12_of : GoodIn wsX12_notes wsX12_of := goodIn_r _ [21, 3, 64, 65, 66, 67, 68, 69, 70, 71, 72, 73, 74, 75, 76, 77, 78, 79, 80, 81, 82, 83, 84, 85, 86] (by decide +kernel) (by decide +kernel)
set_option maxRecDepth 20000 in
theorem gX12_notes_X12_of : GoodIn wsX12_notes (wsV RX12 60 RX12 yX12_of wsX12_of) := goodIn_app (goodIn_of _ (by decide +kernel)) ggX12_notes_X12_of
set_option maxRecDepth 20000 in
theorem ggX12_notes_X12_puts : GoodIn wsX12_notes wsX12_puts := goodIn_r _ [63, 3, 64, 65, 66, 67, 68, 69, 70, 71, 72, 73, 74, 75, 76, 77, 78, 79, 80, 81, 82, 83, 84, 85, 86] (by decide +kernel) (by decide +kernel)
set_option maxRecDepth 20000 in
theorem gX12_notes_X12_puts : GoodIn wsX12_notes (wsV RX12 113 RX12 yX12_puts wsX12_puts) := goodIn_app (goodIn_of _ (by decide +kernel)) ggX12_notes_X12_puts
theorem dX12_notes_0 : decode cX12_notes 0 = .ok (.aload_n 0, 1) := by decide +kernel
theorem dX12_notes_1 : decode cX12_notes 1 = .ok (.iload_n 1, 1) := by decide +kernel
theorem dX12_notes_2 : decode cX12_notes 2 = .ok (.iload_n 2, 1) := by decide +kernel
theorem dX12_notes_3 : decode cX12_notes 3 = .ok (.iload 4, 2) := by decide +kernel
theorem dX12_notes_5 : decode cX12_notes 5 = .ok (.invokevirtual 103, 3) := by decide +kernel
theorem dX12_notes_8 : decode cX12_notes 8 = .ok (.ldc 71, 2) := by decide +kernel
theorem dX12_notes_10 : decode cX12_notes 10 = .ok (.istore 5, 2) := by decide +kernel
theorem dX12_notes_12 : decode cX12_notes 12 = .ok (.iconst 0, 1) := by decide +kernel
theorem dX12_notes_13 : decode cX12_notes 13 = .ok (.istore 6, 2) := by decide +kernel
theorem dX12_notes_15 : decode cX12_notes 15 = .ok (.iconst 0, 1) := by decide +kernel
theorem dX12_notes_16 : decode cX12_notes 16 = .ok (.istore 7, 2) := by decide +kernel
theorem dX12_notes_18 : decode cX12_notes 18 = .ok (.iload 7, 2) := by decide +kernel
theorem dX12_notes_20 : decode cX12_notes 20 = .ok (.aload_n 0, 1) := by decide +kernel
theorem dX12_notes_21 : decode cX12_notes 21 = .ok (.getfield 72, 3) := by decide +kernel
theorem dX12_notes_24 : decode cX12_notes 24 = .ok (.if_icmp .ge 220, 3) := by decide +kernel
theorem dX12_notes_27 : decode cX12_notes 27 = .ok (.aload_n 0, 1) := by decide +kernel
theorem dX12_notes_28 : decode cX12_notes 28 = .ok (.bipush 100, 2) := by decide +kernel
theorem dX12_notes_30 : decode cX12_notes 30 = .ok (.invokevirtual 107, 3) := by decide +kernel
theorem dX12_notes_33 : decode cX12_notes 33 = .ok (.aload_n 0, 1) := by decide +kernel
theorem dX12_notes_34 : decode cX12_notes 34 = .ok (.getfield 7, 3) := by decide +kernel
theorem dX12_notes_37 : decode cX12_notes 37 = .ok (.bipush 9, 2) := by decide +kernel
theorem dX12_notes_39 : decode cX12_notes 39 = .ok (.iaload, 1) := by decide +kernel
theorem dX12_notes_40 : decode cX12_notes 40 = .ok (.if_icmp .ge 7, 3) := by decide +kernel
theorem dX12_notes_43 : decode cX12_notes 43 = .ok (.iconst 1, 1) := by decide +kernel
theorem dX12_notes_44 : decode cX12_notes 44 = .ok (.goto 4, 3) := by decide +kernel
theorem dX12_notes_47 : decode cX12_notes 47 = .ok (.iconst 0, 1) := by decide +kernel
theorem dX12_notes_48 : decode cX12_notes 48 = .ok (.istore 8, 2) := by decide +kernel
theorem dX12_notes_50 : decode cX12_notes 50 = .ok (.iload 8, 2) := by decide +kernel
theorem dX12_notes_52 : decode cX12_notes 52 = .ok (.ifCond .ne 39, 3) := by decide +kernel
theorem dX12_notes_55 : decode cX12_notes 55 = .ok (.aload_n 0, 1) := by decide +kernel
theorem dX12_notes_56 : decode cX12_notes 56 = .ok (.getfield 7, 3) := by decide +kernel
theorem dX12_notes_59 : decode cX12_notes 59 = .ok (.bipush 10, 2) := by decide +kernel
theorem dX12_notes_61 : decode cX12_notes 61 = .ok (.iaload, 1) := by decide +kernel
theorem dX12_notes_62 : decode cX12_notes 62 = .ok (.ifCond .le 29, 3) := by decide +kernel
theorem dX12_notes_65 : decode cX12_notes 65 = .ok (.aload_n 0, 1) := by decide +kernel
theorem dX12_notes_66 : decode cX12_notes 66 = .ok (.iconst 2, 1) := by decide +kernel
theorem dX12_notes_67 : decode cX12_notes 67 = .ok (.aload_n 0, 1) := by decide +kernel
theorem dX12_notes_68 : decode cX12_notes 68 = .ok (.getfield 7, 3) := by decide +kernel
theorem dX12_notes_71 : decode cX12_notes 71 = .ok (.bipush 10, 2) := by decide +kernel
theorem dX12_notes_73 : decode cX12_notes 73 = .ok (.iaload, 1) := by decide +kernel
theorem dX12_notes_74 : decode cX12_notes 74 = .ok (.imul, 1) := by decide +kernel
theorem dX12_notes_75 : decode cX12_notes 75 = .ok (.iconst 1, 1) := by decide +kernel
theorem dX12_notes_76 : decode cX12_notes 76 = .ok (.iadd, 1) := by decide +kernel
theorem dX12_notes_77 : decode cX12_notes 77 = .ok (.invokevirtual 107, 3) := by decide +kernel
theorem dX12_notes_80 : decode cX12_notes 80 = .ok (.aload_n 0, 1) := by decide +kernel
theorem dX12_notes_81 : decode cX12_notes 81 = .ok (.getfield 7, 3) := by decide +kernel
theorem dX12_notes_84 : decode cX12_notes 84 = .ok (.bipush 10, 2) := by decide +kernel
theorem dX12_notes_86 : decode cX12_notes 86 = .ok (.iaload, 1) := by decide +kernel
theorem dX12_notes_87 : decode cX12_notes 87 = .ok (.isub, 1) := by decide +kernel
theorem dX12_notes_88 : decode cX12_notes 88 = .ok (.goto 4, 3) := by decide +kernel
theorem dX12_notes_91 : decode cX12_notes 91 = .ok (.iconst 0, 1) := by decide +kernel
theorem dX12_notes_92 : decode cX12_notes 92 = .ok (.istore 9, 2) := by decide +kernel
theorem dX12_notes_94 : decode cX12_notes 94 = .ok (.iload_n 3, 1) := by decide +kernel
theorem dX12_notes_95 : decode cX12_notes 95 = .ok (.aload_n 0, 1) := by decide +kernel
theorem dX12_notes_96 : decode cX12_notes 96 = .ok (.aload_n 0, 1) := by decide +kernel
theorem dX12_notes_97 : decode cX12_notes 97 = .ok (.getfield 25, 3) := by decide +kernel
theorem dX12_notes_100 : decode cX12_notes 100 = .ok (.iload 7, 2) := by decide +kernel
theorem dX12_notes_102 : decode cX12_notes 102 = .ok (.iaload, 1) := by decide +kernel
theorem dX12_notes_103 : decode cX12_notes 103 = .ok (.invokevirtual 110, 3) := by decide +kernel
theorem dX12_notes_106 : decode cX12_notes 106 = .ok (.iadd, 1) := by decide +kernel
theorem dX12_notes_107 : decode cX12_notes 107 = .ok (.aload_n 0, 1) := by decide +kernel
theorem dX12_notes_108 : decode cX12_notes 108 = .ok (.iload 4, 2) := by decide +kernel
theorem dX12_notes_110 : decode cX12_notes 110 = .ok (.iconst 2, 1) := by decide +kernel
theorem dX12_notes_111 : decode cX12_notes 111 = .ok (.invokevirtual 60, 3) := by decide +kernel
theorem dX12_notes_114 : decode cX12_notes 114 = .ok (.iadd, 1) := by decide +kernel
theorem dX12_notes_115 : decode cX12_notes 115 = .ok (.iload 9, 2) := by decide +kernel
theorem dX12_notes_117 : decode cX12_notes 117 = .ok (.iadd, 1) := by decide +kernel
theorem dX12_notes_118 : decode cX12_notes 118 = .ok (.istore 10, 2) := by decide +kernel
theorem dX12_notes_120 : decode cX12_notes 120 = .ok (.iload 8, 2) := by decide +kernel
theorem dX12_notes_122 : decode cX12_notes 122 = .ok (.ifCond .ne 24, 3) := by decide +kernel
theorem dX12_notes_125 : decode cX12_notes 125 = .ok (.aload_n 0, 1) := by decide +kernel
theorem dX12_notes_126 : decode cX12_notes 126 = .ok (.getfield 28, 3) := by decide +kernel
theorem dX12_notes_129 : decode cX12_notes 129 = .ok (.iload 7, 2) := by decide +kernel
theorem dX12_notes_131 : decode cX12_notes 131 = .ok (.iaload, 1) := by decide +kernel
theorem dX12_notes_132 : decode cX12_notes 132 = .ok (.aload_n 0, 1) := by decide +kernel
theorem dX12_notes_133 : decode cX12_notes 133 = .ok (.getfield 7, 3) := by decide +kernel
theorem dX12_notes_136 : decode cX12_notes 136 = .ok (.bipush 11, 2) := by decide +kernel
theorem dX12_notes_138 : decode cX12_notes 138 = .ok (.iaload, 1) := by decide +kernel
theorem dX12_notes_139 : decode cX12_notes 139 = .ok (.if_icmp .lt 7, 3) := by decide +kernel
theorem dX12_notes_142 : decode cX12_notes 142 = .ok (.iconst 1, 1) := by decide +kernel
theorem dX12_notes_143 : decode cX12_notes 143 = .ok (.goto 4, 3) := by decide +kernel
theorem dX12_notes_146 : decode cX12_notes 146 = .ok (.iconst 0, 1) := by decide +kernel
theorem dX12_notes_147 : decode cX12_notes 147 = .ok (.istore 11, 2) := by decide +kernel
theorem dX12_notes_149 : decode cX12_notes 149 = .ok (.iload 5, 2) := by decide +kernel
theorem dX12_notes_151 : decode cX12_notes 151 = .ok (.ldc 71, 2) := by decide +kernel
theorem dX12_notes_153 : decode cX12_notes 153 = .ok (.if_icmp .eq 40, 3) := by decide +kernel
theorem dX12_notes_156 : decode cX12_notes 156 = .ok (.aload_n 0, 1) := by decide +kernel
theorem dX12_notes_157 : decode cX12_notes 157 = .ok (.getfield 7, 3) := by decide +kernel
theorem dX12_notes_160 : decode cX12_notes 160 = .ok (.bipush 12, 2) := by decide +kernel
theorem dX12_notes_162 : decode cX12_notes 162 = .ok (.iaload, 1) := by decide +kernel
theorem dX12_notes_163 : decode cX12_notes 163 = .ok (.ifCond .ne 13, 3) := by decide +kernel
theorem dX12_notes_166 : decode cX12_notes 166 = .ok (.iload 10, 2) := by decide +kernel
theorem dX12_notes_168 : decode cX12_notes 168 = .ok (.iload 6, 2) := by decide +kernel
theorem dX12_notes_170 : decode cX12_notes 170 = .ok (.if_icmp .ge 27, 3) := by decide +kernel
theorem dX12_notes_173 : decode cX12_notes 173 = .ok (.goto 20, 3) := by decide +kernel
theorem dX12_notes_176 : decode cX12_notes 176 = .ok (.aload_n 0, 1) := by decide +kernel
theorem dX12_notes_177 : decode cX12_notes 177 = .ok (.getfield 28, 3) := by decide +kernel
theorem dX12_notes_180 : decode cX12_notes 180 = .ok (.iload 7, 2) := by decide +kernel
theorem dX12_notes_182 : decode cX12_notes 182 = .ok (.iaload, 1) := by decide +kernel
theorem dX12_notes_183 : decode cX12_notes 183 = .ok (.aload_n 0, 1) := by decide +kernel
theorem dX12_notes_184 : decode cX12_notes 184 = .ok (.getfield 28, 3) := by decide +kernel
theorem dX12_notes_187 : decode cX12_notes 187 = .ok (.iload 5, 2) := by decide +kernel
theorem dX12_notes_189 : decode cX12_notes 189 = .ok (.iaload, 1) := by decide +kernel
theorem dX12_notes_190 : decode cX12_notes 190 = .ok (.if_icmp .le 7, 3) := by decide +kernel
theorem dX12_notes_193 : decode cX12_notes 193 = .ok (.iconst 1, 1) := by decide +kernel
theorem dX12_notes_194 : decode cX12_notes 194 = .ok (.goto 4, 3) := by decide +kernel
theorem dX12_notes_197 : decode cX12_notes 197 = .ok (.iconst 0, 1) := by decide +kernel
theorem dX12_notes_198 : decode cX12_notes 198 = .ok (.istore 12, 2) := by decide +kernel
theorem dX12_notes_200 : decode cX12_notes 200 = .ok (.iload 11, 2) := by decide +kernel
theorem dX12_notes_202 : decode cX12_notes 202 = .ok (.ifCond .eq 13, 3) := by decide +kernel
theorem dX12_notes_205 : decode cX12_notes 205 = .ok (.iload 12, 2) := by decide +kernel
theorem dX12_notes_207 : decode cX12_notes 207 = .ok (.ifCond .eq 8, 3) := by decide +kernel
theorem dX12_notes_210 : decode cX12_notes 210 = .ok (.iload 10, 2) := by decide +kernel
theorem dX12_notes_212 : decode cX12_notes 212 = .ok (.goto 5, 3) := by decide +kernel
theorem dX12_notes_215 : decode cX12_notes 215 = .ok (.iload 6, 2) := by decide +kernel
theorem dX12_notes_217 : decode cX12_notes 217 = .ok (.istore 6, 2) := by decide +kernel
theorem dX12_notes_219 : decode cX12_notes 219 = .ok (.iload 11, 2) := by decide +kernel
theorem dX12_notes_221 : decode cX12_notes 221 = .ok (.ifCond .eq 13, 3) := by decide +kernel
theorem dX12_notes_224 : decode cX12_notes 224 = .ok (.iload 12, 2) := by decide +kernel
theorem dX12_notes_226 : decode cX12_notes 226 = .ok (.ifCond .eq 8, 3) := by decide +kernel
theorem dX12_notes_229 : decode cX12_notes 229 = .ok (.iload 7, 2) := by decide +kernel
theorem dX12_notes_231 : decode cX12_notes 231 = .ok (.goto 5, 3) := by decide +kernel
theorem dX12_notes_234 : decode cX12_notes 234 = .ok (.iload 5, 2) := by decide +kernel
theorem dX12_notes_236 : decode cX12_notes 236 = .ok (.istore 5, 2) := by decide +kernel
theorem dX12_notes_238 : decode cX12_notes 238 = .ok (.iinc 7 1, 3) := by decide +kernel
theorem dX12_notes_241 : decode cX12_notes 241 = .ok (.goto (-223), 3) := by decide +kernel
theorem dX12_notes_244 : decode cX12_notes 244 = .ok (.iload 5, 2) := by decide +kernel
theorem dX12_notes_246 : decode cX12_notes 246 = .ok (.ldc 71, 2) := by decide +kernel
theorem dX12_notes_248 : decode cX12_notes 248 = .ok (.if_icmp .eq 7, 3) := by decide +kernel
theorem dX12_notes_251 : decode cX12_notes 251 = .ok (.iconst 1, 1) := by decide +kernel
theorem dX12_notes_252 : decode cX12_notes 252 = .ok (.goto 4, 3) := by decide +kernel
theorem dX12_notes_255 : decode cX12_notes 255 = .ok (.iconst 0, 1) := by decide +kernel
theorem dX12_notes_256 : decode cX12_notes 256 = .ok (.istore 7, 2) := by decide +kernel
theorem dX12_notes_258 : decode cX12_notes 258 = .ok (.aload_n 0, 1) := by decide +kernel
theorem dX12_notes_259 : decode cX12_notes 259 = .ok (.iload 4, 2) := by decide +kernel
theorem dX12_notes_261 : decode cX12_notes 261 = .ok (.iconst 4, 1) := by decide +kernel
theorem dX12_notes_262 : decode cX12_notes 262 = .ok (.iload 7, 2) := by decide +kernel
theorem dX12_notes_264 : decode cX12_notes 264 = .ok (.ifCond .eq 7, 3) := by decide +kernel
theorem dX12_notes_267 : decode cX12_notes 267 = .ok (.iconst 1, 1) := by decide +kernel
theorem dX12_notes_268 : decode cX12_notes 268 = .ok (.goto 4, 3) := by decide +kernel
theorem dX12_notes_271 : decode cX12_notes 271 = .ok (.iconst 0, 1) := by decide +kernel
theorem dX12_notes_272 : decode cX12_notes 272 = .ok (.invokevirtual 113, 3) := by decide +kernel
theorem dX12_notes_275 : decode cX12_notes 275 = .ok (.aload_n 0, 1) := by decide +kernel
theorem dX12_notes_276 : decode cX12_notes 276 = .ok (.iload 4, 2) := by decide +kernel
theorem dX12_notes_278 : decode cX12_notes 278 = .ok (.iconst 5, 1) := by decide +kernel
theorem dX12_notes_279 : decode cX12_notes 279 = .ok (.iload 7, 2) := by decide +kernel
theorem dX12_notes_281 : decode cX12_notes 281 = .ok (.ifCond .eq 16, 3) := by decide +kernel
theorem dX12_notes_284 : decode cX12_notes 284 = .ok (.iload 6, 2) := by decide +kernel
theorem dX12_notes_286 : decode cX12_notes 286 = .ok (.aload_n 0, 1) := by decide +kernel
theorem dX12_notes_287 : decode cX12_notes 287 = .ok (.iload 4, 2) := by decide +kernel
theorem dX12_notes_289 : decode cX12_notes 289 = .ok (.iconst 3, 1) := by decide +kernel
theorem dX12_notes_290 : decode cX12_notes 290 = .ok (.invokevirtual 60, 3) := by decide +kernel
theorem dX12_notes_293 : decode cX12_notes 293 = .ok (.isub, 1) := by decide +kernel
theorem dX12_notes_294 : decode cX12_notes 294 = .ok (.goto 4, 3) := by decide +kernel
theorem dX12_notes_297 : decode cX12_notes 297 = .ok (.iconst 0, 1) := by decide +kernel
theorem dX12_notes_298 : decode cX12_notes 298 = .ok (.invokevirtual 113, 3) := by decide +kernel
theorem dX12_notes_301 : decode cX12_notes 301 = .ok (.aload_n 0, 1) := by decide +kernel
theorem dX12_notes_302 : decode cX12_notes 302 = .ok (.iload 4, 2) := by decide +kernel
theorem dX12_notes_304 : decode cX12_notes 304 = .ok (.bipush 6, 2) := by decide +kernel
theorem dX12_notes_306 : decode cX12_notes 306 = .ok (.iload 7, 2) := by decide +kernel
theorem dX12_notes_308 : decode cX12_notes 308 = .ok (.ifCond .eq 13, 3) := by decide +kernel
theorem dX12_notes_311 : decode cX12_notes 311 = .ok (.aload_n 0, 1) := by decide +kernel
theorem dX12_notes_312 : decode cX12_notes 312 = .ok (.getfield 22, 3) := by decide +kernel
theorem dX12_notes_315 : decode cX12_notes 315 = .ok (.iload 5, 2) := by decide +kernel
theorem dX12_notes_317 : decode cX12_notes 317 = .ok (.iaload, 1) := by decide +kernel
theorem dX12_notes_318 : decode cX12_notes 318 = .ok (.goto 4, 3) := by decide +kernel
theorem dX12_notes_321 : decode cX12_notes 321 = .ok (.iconst 0, 1) := by decide +kernel
theorem dX12_notes_322 : decode cX12_notes 322 = .ok (.invokevirtual 113, 3) := by decide +kernel
theorem dX12_notes_325 : decode cX12_notes 325 = .ok (.aload_n 0, 1) := by decide +kernel
theorem dX12_notes_326 : decode cX12_notes 326 = .ok (.iload 4, 2) := by decide +kernel
theorem dX12_notes_328 : decode cX12_notes 328 = .ok (.bipush 7, 2) := by decide +kernel
theorem dX12_notes_330 : decode cX12_notes 330 = .ok (.iload 7, 2) := by decide +kernel
theorem dX12_notes_332 : decode cX12_notes 332 = .ok (.ifCond .eq 13, 3) := by decide +kernel
theorem dX12_notes_335 : decode cX12_notes 335 = .ok (.aload_n 0, 1) := by decide +kernel
theorem dX12_notes_336 : decode cX12_notes 336 = .ok (.getfield 28, 3) := by decide +kernel
theorem dX12_notes_339 : decode cX12_notes 339 = .ok (.iload 5, 2) := by decide +kernel
theorem dX12_notes_341 : decode cX12_notes 341 = .ok (.iaload, 1) := by decide +kernel
theorem dX12_notes_342 : decode cX12_notes 342 = .ok (.goto 4, 3) := by decide +kernel
theorem dX12_notes_345 : decode cX12_notes 345 = .ok (.iconst 0, 1) := by decide +kernel
theorem dX12_notes_346 : decode cX12_notes 346 = .ok (.invokevirtual 113, 3) := by decide +kernel
theorem dX12_notes_349 : decode cX12_notes 349 = .ok (.aload_n 0, 1) := by decide +kernel
theorem dX12_notes_350 : decode cX12_notes 350 = .ok (.iload 4, 2) := by decide +kernel
theorem dX12_notes_352 : decode cX12_notes 352 = .ok (.bipush 8, 2) := by decide +kernel
theorem dX12_notes_354 : decode cX12_notes 354 = .ok (.iload 7, 2) := by decide +kernel
theorem dX12_notes_356 : decode cX12_notes 356 = .ok (.ifCond .eq 13, 3) := by decide +kernel
theorem dX12_notes_359 : decode cX12_notes 359 = .ok (.aload_n 0, 1) := by decide +kernel
theorem dX12_notes_360 : decode cX12_notes 360 = .ok (.getfield 31, 3) := by decide +kernel
theorem dX12_notes_363 : decode cX12_notes 363 = .ok (.iload 5, 2) := by decide +kernel
theorem dX12_notes_365 : decode cX12_notes 365 = .ok (.iaload, 1) := by decide +kernel
theorem dX12_notes_366 : decode cX12_notes 366 = .ok (.goto 4, 3) := by decide +kernel
theorem dX12_notes_369 : decode cX12_notes 369 = .ok (.iconst 0, 1) := by decide +kernel
theorem dX12_notes_370 : decode cX12_notes 370 = .ok (.invokevirtual 113, 3) := by decide +kernel
theorem dX12_notes_373 : decode cX12_notes 373 = .ok (.aload_n 0, 1) := by decide +kernel
theorem dX12_notes_374 : decode cX12_notes 374 = .ok (.iload 4, 2) := by decide +kernel
theorem dX12_notes_376 : decode cX12_notes 376 = .ok (.bipush 9, 2) := by decide +kernel
theorem dX12_notes_378 : decode cX12_notes 378 = .ok (.iload 7, 2) := by decide +kernel
theorem dX12_notes_380 : decode cX12_notes 380 = .ok (.ifCond .eq 13, 3) := by decide +kernel
theorem dX12_notes_383 : decode cX12_notes 383 = .ok (.aload_n 0, 1) := by decide +kernel
theorem dX12_notes_384 : decode cX12_notes 384 = .ok (.getfield 34, 3) := by decide +kernel
theorem dX12_notes_387 : decode cX12_notes 387 = .ok (.iload 5, 2) := by decide +kernel
theorem dX12_notes_389 : decode cX12_notes 389 = .ok (.iaload, 1) := by decide +kernel
theorem dX12_notes_390 : decode cX12_notes 390 = .ok (.goto 4, 3) := by decide +kernel
theorem dX12_notes_393 : decode cX12_notes 393 = .ok (.iconst 0, 1) := by decide +kernel
theorem dX12_notes_394 : decode cX12_notes 394 = .ok (.invokevirtual 113, 3) := by decide +kernel
theorem dX12_notes_397 : decode cX12_notes 397 = .ok (.return_, 1) := by decide +kernel
set_option maxRecDepth 20000 in
theorem ggX12_noted_X12_of : GoodIn wsX12_noted wsX12_of := goodIn_r _ [6, 1, 7, 8, 9, 10, 11, 12, 13, 14, 15, 16, 17, 18, 19, 20, 21, 22, 23, 24, 25, 26, 27, 28, 29] (by decide +kernel) (by decide +kernel)
set_option maxRecDepth 20000 in
theorem gX12_noted_X12_of : GoodIn wsX12_noted (wsV RX12 60 RX12 yX12_of wsX12_of) := goodIn_app (goodIn_of _ (by decide +kernel)) ggX12_noted_X12_of
theorem dX12_noted_0 : decode cX12_noted 0 = .ok (.iconst 0, 1) := by decide +kernel
theorem dX12_noted_1 : decode cX12_noted 1 = .ok (.istore_n 1, 1) := by decide +kernel
theorem dX12_noted_2 : decode cX12_noted 2 = .ok (.iconst 0, 1) := by decide +kernel
theorem dX12_noted_3 : decode cX12_noted 3 = .ok (.istore_n 2, 1) := by decide +kernel
theorem dX12_noted_4 : decode cX12_noted 4 = .ok (.iload_n 2, 1) := by decide +kernel
theorem dX12_noted_5 : decode cX12_noted 5 = .ok (.aload_n 0, 1) := by decide +kernel
theorem dX12_noted_6 : decode cX12_noted 6 = .ok (.getfield 7, 3) := by decide +kernel
theorem dX12_noted_9 : decode cX12_noted 9 = .ok (.iconst 2, 1) := by decide +kernel
theorem dX12_noted_10 : decode cX12_noted 10 = .ok (.iaload, 1) := by decide +kernel
theorem dX12_noted_11 : decode cX12_noted 11 = .ok (.if_icmp .ge 18, 3) := by decide +kernel
theorem dX12_noted_14 : decode cX12_noted 14 = .ok (.iload_n 1, 1) := by decide +kernel
theorem dX12_noted_15 : decode cX12_noted 15 = .ok (.aload_n 0, 1) := by decide +kernel
theorem dX12_noted_16 : decode cX12_noted 16 = .ok (.iload_n 2, 1) := by decide +kernel
theorem dX12_noted_17 : decode cX12_noted 17 = .ok (.iconst 4, 1) := by decide +kernel
theorem dX12_noted_18 : decode cX12_noted 18 = .ok (.invokevirtual 60, 3) := by decide +kernel
theorem dX12_noted_21 : decode cX12_noted 21 = .ok (.iadd, 1) := by decide +kernel
theorem dX12_noted_22 : decode cX12_noted 22 = .ok (.istore_n 1, 1) := by decide +kernel
theorem dX12_noted_23 : decode cX12_noted 23 = .ok (.iinc 2 1, 3) := by decide +kernel
theorem dX12_noted_26 : decode cX12_noted 26 = .ok (.goto (-22), 3) := by decide +kernel
theorem dX12_noted_29 : decode cX12_noted 29 = .ok (.iload_n 1, 1) := by decide +kernel
theorem dX12_noted_30 : decode cX12_noted 30 = .ok (.ireturn, 1) := by decide +kernel
set_option maxRecDepth 20000 in
theorem ggX12_isPlace_X12_in : GoodIn wsX12_isPlace wsX12_in := goodIn_r _ [4] (by decide +kernel) (by decide +kernel)
set_option maxRecDepth 20000 in
theorem gX12_isPlace_X12_in : GoodIn wsX12_isPlace (va_wsS RX12 116 yX12_in wsX12_in) := goodIn_app (goodIn_of _ (by decide +kernel)) ggX12_isPlace_X12_in
theorem dX12_isPlace_0 : decode cX12_isPlace 0 = .ok (.iload_n 0, 1) := by decide +kernel
theorem dX12_isPlace_1 : decode cX12_isPlace 1 = .ok (.sipush (-1000), 3) := by decide +kernel
theorem dX12_isPlace_4 : decode cX12_isPlace 4 = .ok (.sipush 3000, 3) := by decide +kernel
theorem dX12_isPlace_7 : decode cX12_isPlace 7 = .ok (.invokestatic 116, 3) := by decide +kernel
theorem dX12_isPlace_10 : decode cX12_isPlace 10 = .ok (.ireturn, 1) := by decide +kernel
set_option maxRecDepth 20000 in
theorem ggX12_begins_X12_in : GoodIn wsX12_begins wsX12_in := goodIn_r _ [6] (by decide +kernel) (by decide +kernel)
set_option maxRecDepth 20000 in
theorem gX12_begins_X12_in : GoodIn wsX12_begins (va_wsS RX12 116 yX12_in wsX12_in) := goodIn_app (goodIn_of _ (by decide +kernel)) ggX12_begins_X12_in
theorem dX12_begins_0 : decode cX12_begins 0 = .ok (.iload_n 1, 1) := by decide +kernel
theorem dX12_begins_1 : decode cX12_begins 1 = .ok (.iconst 2, 1) := by decide +kernel
theorem dX12_begins_2 : decode cX12_begins 2 = .ok (.bipush 20, 2) := by decide +kernel
theorem dX12_begins_4 : decode cX12_begins 4 = .ok (.invokestatic 116, 3) := by decide +kernel
theorem dX12_begins_7 : decode cX12_begins 7 = .ok (.ifCond .eq 13, 3) := by decide +kernel
theorem dX12_begins_10 : decode cX12_begins 10 = .ok (.iload_n 2, 1) := by decide +kernel
theorem dX12_begins_11 : decode cX12_begins 11 = .ok (.iconst 2, 1) := by decide +kernel
theorem dX12_begins_12 : decode cX12_begins 12 = .ok (.bipush 20, 2) := by decide +kernel
theorem dX12_begins_14 : decode cX12_begins 14 = .ok (.invokestatic 116, 3) := by decide +kernel
theorem dX12_begins_17 : decode cX12_begins 17 = .ok (.ifCond .ne 5, 3) := by decide +kernel
theorem dX12_begins_20 : decode cX12_begins 20 = .ok (.iconst 2, 1) := by decide +kernel
theorem dX12_begins_21 : decode cX12_begins 21 = .ok (.ireturn, 1) := by decide +kernel
theorem dX12_begins_22 : decode cX12_begins 22 = .ok (.aload_n 0, 1) := by decide +kernel
theorem dX12_begins_23 : decode cX12_begins 23 = .ok (.aload_n 0, 1) := by decide +kernel
theorem dX12_begins_24 : decode cX12_begins 24 = .ok (.getfield 7, 3) := by decide +kernel
theorem dX12_begins_27 : decode cX12_begins 27 = .ok (.iconst 5, 1) := by decide +kernel
theorem dX12_begins_28 : decode cX12_begins 28 = .ok (.iaload, 1) := by decide +kernel
theorem dX12_begins_29 : decode cX12_begins 29 = .ok (.putfield 119, 3) := by decide +kernel
theorem dX12_begins_32 : decode cX12_begins 32 = .ok (.bipush 14, 2) := by decide +kernel
theorem dX12_begins_34 : decode cX12_begins 34 = .ok (.istore_n 3, 1) := by decide +kernel
theorem dX12_begins_35 : decode cX12_begins 35 = .ok (.iload_n 3, 1) := by decide +kernel
theorem dX12_begins_36 : decode cX12_begins 36 = .ok (.bipush 122, 2) := by decide +kernel
theorem dX12_begins_38 : decode cX12_begins 38 = .ok (.if_icmp .ge 16, 3) := by decide +kernel
theorem dX12_begins_41 : decode cX12_begins 41 = .ok (.aload_n 0, 1) := by decide +kernel
theorem dX12_begins_42 : decode cX12_begins 42 = .ok (.getfield 7, 3) := by decide +kernel
theorem dX12_begins_45 : decode cX12_begins 45 = .ok (.iload_n 3, 1) := by decide +kernel
theorem dX12_begins_46 : decode cX12_begins 46 = .ok (.iconst 0, 1) := by decide +kernel
theorem dX12_begins_47 : decode cX12_begins 47 = .ok (.iastore, 1) := by decide +kernel
theorem dX12_begins_48 : decode cX12_begins 48 = .ok (.iinc 3 1, 3) := by decide +kernel
theorem dX12_begins_51 : decode cX12_begins 51 = .ok (.goto (-16), 3) := by decide +kernel
theorem dX12_begins_54 : decode cX12_begins 54 = .ok (.aload_n 0, 1) := by decide +kernel
theorem dX12_begins_55 : decode cX12_begins 55 = .ok (.getfield 7, 3) := by decide +kernel
theorem dX12_begins_58 : decode cX12_begins 58 = .ok (.iconst 0, 1) := by decide +kernel
theorem dX12_begins_59 : decode cX12_begins 59 = .ok (.iload_n 1, 1) := by decide +kernel
theorem dX12_begins_60 : decode cX12_begins 60 = .ok (.iastore, 1) := by decide +kernel
theorem dX12_begins_61 : decode cX12_begins 61 = .ok (.aload_n 0, 1) := by decide +kernel
theorem dX12_begins_62 : decode cX12_begins 62 = .ok (.getfield 7, 3) := by decide +kernel
theorem dX12_begins_65 : decode cX12_begins 65 = .ok (.iconst 1, 1) := by decide +kernel
theorem dX12_begins_66 : decode cX12_begins 66 = .ok (.iload_n 2, 1) := by decide +kernel
theorem dX12_begins_67 : decode cX12_begins 67 = .ok (.iastore, 1) := by decide +kernel
theorem dX12_begins_68 : decode cX12_begins 68 = .ok (.iconst 0, 1) := by decide +kernel
theorem dX12_begins_69 : decode cX12_begins 69 = .ok (.istore_n 3, 1) := by decide +kernel
theorem dX12_begins_70 : decode cX12_begins 70 = .ok (.iload_n 3, 1) := by decide +kernel
theorem dX12_begins_71 : decode cX12_begins 71 = .ok (.iconst 4, 1) := by decide +kernel
theorem dX12_begins_72 : decode cX12_begins 72 = .ok (.if_icmp .ge 18, 3) := by decide +kernel
theorem dX12_begins_75 : decode cX12_begins 75 = .ok (.aload_n 0, 1) := by decide +kernel
theorem dX12_begins_76 : decode cX12_begins 76 = .ok (.getfield 7, 3) := by decide +kernel
theorem dX12_begins_79 : decode cX12_begins 79 = .ok (.iconst 2, 1) := by decide +kernel
theorem dX12_begins_80 : decode cX12_begins 80 = .ok (.iload_n 3, 1) := by decide +kernel
theorem dX12_begins_81 : decode cX12_begins 81 = .ok (.iadd, 1) := by decide +kernel
theorem dX12_begins_82 : decode cX12_begins 82 = .ok (.iconst 0, 1) := by decide +kernel
theorem dX12_begins_83 : decode cX12_begins 83 = .ok (.iastore, 1) := by decide +kernel
theorem dX12_begins_84 : decode cX12_begins 84 = .ok (.iinc 3 1, 3) := by decide +kernel
theorem dX12_begins_87 : decode cX12_begins 87 = .ok (.goto (-17), 3) := by decide +kernel
theorem dX12_begins_90 : decode cX12_begins 90 = .ok (.iconst 0, 1) := by decide +kernel
theorem dX12_begins_91 : decode cX12_begins 91 = .ok (.ireturn, 1) := by decide +kernel
set_option maxRecDepth 20000 in
theorem ggX12_comes_X12_in : GoodIn wsX12_comes wsX12_in := goodIn_r _ [6] (by decide +kernel) (by decide +kernel)
set_option maxRecDepth 20000 in
theorem gX12_comes_X12_in : GoodIn wsX12_comes (va_wsS RX12 116 yX12_in wsX12_in) := goodIn_app (goodIn_of _ (by decide +kernel)) ggX12_comes_X12_in
set_option maxRecDepth 20000 in
theorem ggX12_comes_X12_puts : GoodIn wsX12_comes wsX12_puts := goodIn_r _ [10, 1, 11, 12, 13, 14, 15, 16, 17, 18, 19, 20, 21, 22, 23, 24, 25, 26, 27, 28, 29, 30, 31, 32, 33] (by decide +kernel) (by decide +kernel)
set_option maxRecDepth 20000 in
theorem gX12_comes_X12_puts : GoodIn wsX12_comes (wsV RX12 113 RX12 yX12_puts wsX12_puts) := goodIn_app (goodIn_of _ (by decide +kernel)) ggX12_comes_X12_puts
theorem dX12_comes_0 : decode cX12_comes 0 = .ok (.iload_n 1, 1) := by decide +kernel
theorem dX12_comes_1 : decode cX12_comes 1 = .ok (.sipush (-500), 3) := by decide +kernel
theorem dX12_comes_4 : decode cX12_comes 4 = .ok (.sipush 2500, 3) := by decide +kernel
theorem dX12_comes_7 : decode cX12_comes 7 = .ok (.invokestatic 116, 3) := by decide +kernel
theorem dX12_comes_10 : decode cX12_comes 10 = .ok (.ifCond .eq 16, 3) := by decide +kernel
theorem dX12_comes_13 : decode cX12_comes 13 = .ok (.iload_n 2, 1) := by decide +kernel
theorem dX12_comes_14 : decode cX12_comes 14 = .ok (.sipush (-500), 3) := by decide +kernel
theorem dX12_comes_17 : decode cX12_comes 17 = .ok (.sipush 2500, 3) := by decide +kernel
theorem dX12_comes_20 : decode cX12_comes 20 = .ok (.invokestatic 116, 3) := by decide +kernel
theorem dX12_comes_23 : decode cX12_comes 23 = .ok (.ifCond .ne 5, 3) := by decide +kernel
theorem dX12_comes_26 : decode cX12_comes 26 = .ok (.iconst 2, 1) := by decide +kernel
theorem dX12_comes_27 : decode cX12_comes 27 = .ok (.ireturn, 1) := by decide +kernel
theorem dX12_comes_28 : decode cX12_comes 28 = .ok (.aload_n 0, 1) := by decide +kernel
theorem dX12_comes_29 : decode cX12_comes 29 = .ok (.getfield 7, 3) := by decide +kernel
theorem dX12_comes_32 : decode cX12_comes 32 = .ok (.iconst 2, 1) := by decide +kernel
theorem dX12_comes_33 : decode cX12_comes 33 = .ok (.iaload, 1) := by decide +kernel
theorem dX12_comes_34 : decode cX12_comes 34 = .ok (.bipush 8, 2) := by decide +kernel
theorem dX12_comes_36 : decode cX12_comes 36 = .ok (.if_icmp .ne 5, 3) := by decide +kernel
theorem dX12_comes_39 : decode cX12_comes 39 = .ok (.iconst 3, 1) := by decide +kernel
theorem dX12_comes_40 : decode cX12_comes 40 = .ok (.ireturn, 1) := by decide +kernel
theorem dX12_comes_41 : decode cX12_comes 41 = .ok (.aload_n 0, 1) := by decide +kernel
theorem dX12_comes_42 : decode cX12_comes 42 = .ok (.aload_n 0, 1) := by decide +kernel
theorem dX12_comes_43 : decode cX12_comes 43 = .ok (.getfield 7, 3) := by decide +kernel
theorem dX12_comes_46 : decode cX12_comes 46 = .ok (.iconst 2, 1) := by decide +kernel
theorem dX12_comes_47 : decode cX12_comes 47 = .ok (.iaload, 1) := by decide +kernel
theorem dX12_comes_48 : decode cX12_comes 48 = .ok (.putfield 119, 3) := by decide +kernel
theorem dX12_comes_51 : decode cX12_comes 51 = .ok (.iconst 0, 1) := by decide +kernel
theorem dX12_comes_52 : decode cX12_comes 52 = .ok (.istore_n 3, 1) := by decide +kernel
theorem dX12_comes_53 : decode cX12_comes 53 = .ok (.iload_n 3, 1) := by decide +kernel
theorem dX12_comes_54 : decode cX12_comes 54 = .ok (.bipush 10, 2) := by decide +kernel
theorem dX12_comes_56 : decode cX12_comes 56 = .ok (.if_icmp .ge 19, 3) := by decide +kernel
theorem dX12_comes_59 : decode cX12_comes 59 = .ok (.aload_n 0, 1) := by decide +kernel
theorem dX12_comes_60 : decode cX12_comes 60 = .ok (.aload_n 0, 1) := by decide +kernel
theorem dX12_comes_61 : decode cX12_comes 61 = .ok (.getfield 119, 3) := by decide +kernel
theorem dX12_comes_64 : decode cX12_comes 64 = .ok (.iload_n 3, 1) := by decide +kernel
theorem dX12_comes_65 : decode cX12_comes 65 = .ok (.iconst 0, 1) := by decide +kernel
theorem dX12_comes_66 : decode cX12_comes 66 = .ok (.invokevirtual 113, 3) := by decide +kernel
theorem dX12_comes_69 : decode cX12_comes 69 = .ok (.iinc 3 1, 3) := by decide +kernel
theorem dX12_comes_72 : decode cX12_comes 72 = .ok (.goto (-19), 3) := by decide +kernel
theorem dX12_comes_75 : decode cX12_comes 75 = .ok (.aload_n 0, 1) := by decide +kernel
theorem dX12_comes_76 : decode cX12_comes 76 = .ok (.aload_n 0, 1) := by decide +kernel
theorem dX12_comes_77 : decode cX12_comes 77 = .ok (.getfield 119, 3) := by decide +kernel
theorem dX12_comes_80 : decode cX12_comes 80 = .ok (.iconst 0, 1) := by decide +kernel
theorem dX12_comes_81 : decode cX12_comes 81 = .ok (.iload_n 1, 1) := by decide +kernel
theorem dX12_comes_82 : decode cX12_comes 82 = .ok (.invokevirtual 113, 3) := by decide +kernel
theorem dX12_comes_85 : decode cX12_comes 85 = .ok (.aload_n 0, 1) := by decide +kernel
theorem dX12_comes_86 : decode cX12_comes 86 = .ok (.aload_n 0, 1) := by decide +kernel
theorem dX12_comes_87 : decode cX12_comes 87 = .ok (.getfield 119, 3) := by decide +kernel
theorem dX12_comes_90 : decode cX12_comes 90 = .ok (.iconst 1, 1) := by decide +kernel
theorem dX12_comes_91 : decode cX12_comes 91 = .ok (.iload_n 2, 1) := by decide +kernel
theorem dX12_comes_92 : decode cX12_comes 92 = .ok (.invokevirtual 113, 3) := by decide +kernel
theorem dX12_comes_95 : decode cX12_comes 95 = .ok (.aload_n 0, 1) := by decide +kernel
theorem dX12_comes_96 : decode cX12_comes 96 = .ok (.getfield 7, 3) := by decide +kernel
theorem dX12_comes_99 : decode cX12_comes 99 = .ok (.iconst 2, 1) := by decide +kernel
theorem dX12_comes_100 : decode cX12_comes 100 = .ok (.dup2, 1) := by decide +kernel
theorem dX12_comes_101 : decode cX12_comes 101 = .ok (.iaload, 1) := by decide +kernel
theorem dX12_comes_102 : decode cX12_comes 102 = .ok (.iconst 1, 1) := by decide +kernel
theorem dX12_comes_103 : decode cX12_comes 103 = .ok (.iadd, 1) := by decide +kernel
theorem dX12_comes_104 : decode cX12_comes 104 = .ok (.iastore, 1) := by decide +kernel
theorem dX12_comes_105 : decode cX12_comes 105 = .ok (.iconst 0, 1) := by decide +kernel
theorem dX12_comes_106 : decode cX12_comes 106 = .ok (.ireturn, 1) := by decide +kernel
set_option maxRecDepth 20000 in
theorem ggX12_walls_X12_in : GoodIn wsX12_walls wsX12_in := goodIn_r _ [6] (by decide +kernel) (by decide +kernel)
set_option maxRecDepth 20000 in
theorem gX12_walls_X12_in : GoodIn wsX12_walls (va_wsS RX12 116 yX12_in wsX12_in) := goodIn_app (goodIn_of _ (by decide +kernel)) ggX12_walls_X12_in
set_option maxRecDepth 20000 in
theorem ggX12_walls_X12_isPlace : GoodIn wsX12_walls wsX12_isPlace := goodIn_r _ [9, 3, 4, 5, 6] (by decide +kernel) (by decide +kernel)
set_option maxRecDepth 20000 in
theorem gX12_walls_X12_isPlace : GoodIn wsX12_walls (va_wsS RX12 122 yX12_isPlace wsX12_isPlace) := goodIn_app (goodIn_of _ (by decide +kernel)) ggX12_walls_X12_isPlace
theorem dX12_walls_0 : decode cX12_walls 0 = .ok (.iload_n 1, 1) := by decide +kernel
theorem dX12_walls_1 : decode cX12_walls 1 = .ok (.iconst 0, 1) := by decide +kernel
theorem dX12_walls_2 : decode cX12_walls 2 = .ok (.iconst 1, 1) := by decide +kernel
theorem dX12_walls_3 : decode cX12_walls 3 = .ok (.invokestatic 116, 3) := by decide +kernel
theorem dX12_walls_6 : decode cX12_walls 6 = .ok (.ifCond .eq 20, 3) := by decide +kernel
theorem dX12_walls_9 : decode cX12_walls 9 = .ok (.iload_n 2, 1) := by decide +kernel
theorem dX12_walls_10 : decode cX12_walls 10 = .ok (.invokestatic 122, 3) := by decide +kernel
theorem dX12_walls_13 : decode cX12_walls 13 = .ok (.ifCond .eq 13, 3) := by decide +kernel
theorem dX12_walls_16 : decode cX12_walls 16 = .ok (.iload_n 3, 1) := by decide +kernel
theorem dX12_walls_17 : decode cX12_walls 17 = .ok (.iconst 0, 1) := by decide +kernel
theorem dX12_walls_18 : decode cX12_walls 18 = .ok (.bipush 100, 2) := by decide +kernel
theorem dX12_walls_20 : decode cX12_walls 20 = .ok (.invokestatic 116, 3) := by decide +kernel
theorem dX12_walls_23 : decode cX12_walls 23 = .ok (.ifCond .ne 5, 3) := by decide +kernel
theorem dX12_walls_26 : decode cX12_walls 26 = .ok (.iconst 2, 1) := by decide +kernel
theorem dX12_walls_27 : decode cX12_walls 27 = .ok (.ireturn, 1) := by decide +kernel
theorem dX12_walls_28 : decode cX12_walls 28 = .ok (.aload_n 0, 1) := by decide +kernel
theorem dX12_walls_29 : decode cX12_walls 29 = .ok (.getfield 7, 3) := by decide +kernel
theorem dX12_walls_32 : decode cX12_walls 32 = .ok (.iconst 3, 1) := by decide +kernel
theorem dX12_walls_33 : decode cX12_walls 33 = .ok (.iaload, 1) := by decide +kernel
theorem dX12_walls_34 : decode cX12_walls 34 = .ok (.iconst 4, 1) := by decide +kernel
theorem dX12_walls_35 : decode cX12_walls 35 = .ok (.if_icmp .ne 5, 3) := by decide +kernel
theorem dX12_walls_38 : decode cX12_walls 38 = .ok (.iconst 3, 1) := by decide +kernel
theorem dX12_walls_39 : decode cX12_walls 39 = .ok (.ireturn, 1) := by decide +kernel
theorem dX12_walls_40 : decode cX12_walls 40 = .ok (.aload_n 0, 1) := by decide +kernel
theorem dX12_walls_41 : decode cX12_walls 41 = .ok (.aload_n 0, 1) := by decide +kernel
theorem dX12_walls_42 : decode cX12_walls 42 = .ok (.getfield 7, 3) := by decide +kernel
theorem dX12_walls_45 : decode cX12_walls 45 = .ok (.iconst 3, 1) := by decide +kernel
theorem dX12_walls_46 : decode cX12_walls 46 = .ok (.iaload, 1) := by decide +kernel
theorem dX12_walls_47 : decode cX12_walls 47 = .ok (.putfield 119, 3) := by decide +kernel
theorem dX12_walls_50 : decode cX12_walls 50 = .ok (.bipush 94, 2) := by decide +kernel
theorem dX12_walls_52 : decode cX12_walls 52 = .ok (.iconst 3, 1) := by decide +kernel
theorem dX12_walls_53 : decode cX12_walls 53 = .ok (.aload_n 0, 1) := by decide +kernel
theorem dX12_walls_54 : decode cX12_walls 54 = .ok (.getfield 119, 3) := by decide +kernel
theorem dX12_walls_57 : decode cX12_walls 57 = .ok (.imul, 1) := by decide +kernel
theorem dX12_walls_58 : decode cX12_walls 58 = .ok (.iadd, 1) := by decide +kernel
theorem dX12_walls_59 : decode cX12_walls 59 = .ok (.istore 4, 2) := by decide +kernel
theorem dX12_walls_61 : decode cX12_walls 61 = .ok (.aload_n 0, 1) := by decide +kernel
theorem dX12_walls_62 : decode cX12_walls 62 = .ok (.getfield 7, 3) := by decide +kernel
theorem dX12_walls_65 : decode cX12_walls 65 = .ok (.iload 4, 2) := by decide +kernel
theorem dX12_walls_67 : decode cX12_walls 67 = .ok (.iload_n 1, 1) := by decide +kernel
theorem dX12_walls_68 : decode cX12_walls 68 = .ok (.iastore, 1) := by decide +kernel
theorem dX12_walls_69 : decode cX12_walls 69 = .ok (.aload_n 0, 1) := by decide +kernel
theorem dX12_walls_70 : decode cX12_walls 70 = .ok (.getfield 7, 3) := by decide +kernel
theorem dX12_walls_73 : decode cX12_walls 73 = .ok (.iload 4, 2) := by decide +kernel
theorem dX12_walls_75 : decode cX12_walls 75 = .ok (.iconst 1, 1) := by decide +kernel
theorem dX12_walls_76 : decode cX12_walls 76 = .ok (.iadd, 1) := by decide +kernel
theorem dX12_walls_77 : decode cX12_walls 77 = .ok (.iload_n 2, 1) := by decide +kernel
theorem dX12_walls_78 : decode cX12_walls 78 = .ok (.iastore, 1) := by decide +kernel
theorem dX12_walls_79 : decode cX12_walls 79 = .ok (.aload_n 0, 1) := by decide +kernel
theorem dX12_walls_80 : decode cX12_walls 80 = .ok (.getfield 7, 3) := by decide +kernel
theorem dX12_walls_83 : decode cX12_walls 83 = .ok (.iload 4, 2) := by decide +kernel
theorem dX12_walls_85 : decode cX12_walls 85 = .ok (.iconst 2, 1) := by decide +kernel
theorem dX12_walls_86 : decode cX12_walls 86 = .ok (.iadd, 1) := by decide +kernel
theorem dX12_walls_87 : decode cX12_walls 87 = .ok (.iload_n 3, 1) := by decide +kernel
theorem dX12_walls_88 : decode cX12_walls 88 = .ok (.iastore, 1) := by decide +kernel
theorem dX12_walls_89 : decode cX12_walls 89 = .ok (.aload_n 0, 1) := by decide +kernel
theorem dX12_walls_90 : decode cX12_walls 90 = .ok (.getfield 7, 3) := by decide +kernel
theorem dX12_walls_93 : decode cX12_walls 93 = .ok (.iconst 3, 1) := by decide +kernel
theorem dX12_walls_94 : decode cX12_walls 94 = .ok (.dup2, 1) := by decide +kernel
theorem dX12_walls_95 : decode cX12_walls 95 = .ok (.iaload, 1) := by decide +kernel
theorem dX12_walls_96 : decode cX12_walls 96 = .ok (.iconst 1, 1) := by decide +kernel
theorem dX12_walls_97 : decode cX12_walls 97 = .ok (.iadd, 1) := by decide +kernel
theorem dX12_walls_98 : decode cX12_walls 98 = .ok (.iastore, 1) := by decide +kernel
theorem dX12_walls_99 : decode cX12_walls 99 = .ok (.iconst 0, 1) := by decide +kernel
theorem dX12_walls_100 : decode cX12_walls 100 = .ok (.ireturn, 1) := by decide +kernel
set_option maxRecDepth 20000 in
theorem ggX12_screens_X12_in : GoodIn wsX12_screens wsX12_in := goodIn_r _ [6] (by decide +kernel) (by decide +kernel)
set_option maxRecDepth 20000 in
theorem gX12_screens_X12_in : GoodIn wsX12_screens (va_wsS RX12 116 yX12_in wsX12_in) := goodIn_app (goodIn_of _ (by decide +kernel)) ggX12_screens_X12_in
set_option maxRecDepth 20000 in
theorem ggX12_screens_X12_isPlace : GoodIn wsX12_screens wsX12_isPlace := goodIn_r _ [9, 3, 4, 5, 6] (by decide +kernel) (by decide +kernel)
set_option maxRecDepth 20000 in
theorem gX12_screens_X12_isPlace : GoodIn wsX12_screens (va_wsS RX12 122 yX12_isPlace wsX12_isPlace) := goodIn_app (goodIn_of _ (by decide +kernel)) ggX12_screens_X12_isPlace
theorem dX12_screens_0 : decode cX12_screens 0 = .ok (.iload_n 1, 1) := by decide +kernel
theorem dX12_screens_1 : decode cX12_screens 1 = .ok (.iconst 0, 1) := by decide +kernel
theorem dX12_screens_2 : decode cX12_screens 2 = .ok (.iconst 1, 1) := by decide +kernel
theorem dX12_screens_3 : decode cX12_screens 3 = .ok (.invokestatic 116, 3) := by decide +kernel
theorem dX12_screens_6 : decode cX12_screens 6 = .ok (.ifCond .eq 31, 3) := by decide +kernel
theorem dX12_screens_9 : decode cX12_screens 9 = .ok (.iload_n 2, 1) := by decide +kernel
theorem dX12_screens_10 : decode cX12_screens 10 = .ok (.invokestatic 122, 3) := by decide +kernel
theorem dX12_screens_13 : decode cX12_screens 13 = .ok (.ifCond .eq 24, 3) := by decide +kernel
theorem dX12_screens_16 : decode cX12_screens 16 = .ok (.iload_n 3, 1) := by decide +kernel
theorem dX12_screens_17 : decode cX12_screens 17 = .ok (.invokestatic 122, 3) := by decide +kernel
theorem dX12_screens_20 : decode cX12_screens 20 = .ok (.ifCond .eq 17, 3) := by decide +kernel
theorem dX12_screens_23 : decode cX12_screens 23 = .ok (.iload 4, 2) := by decide +kernel
theorem dX12_screens_25 : decode cX12_screens 25 = .ok (.invokestatic 122, 3) := by decide +kernel
theorem dX12_screens_28 : decode cX12_screens 28 = .ok (.ifCond .eq 9, 3) := by decide +kernel
theorem dX12_screens_31 : decode cX12_screens 31 = .ok (.iload 4, 2) := by decide +kernel
theorem dX12_screens_33 : decode cX12_screens 33 = .ok (.iload_n 3, 1) := by decide +kernel
theorem dX12_screens_34 : decode cX12_screens 34 = .ok (.if_icmp .gt 5, 3) := by decide +kernel
theorem dX12_screens_37 : decode cX12_screens 37 = .ok (.iconst 2, 1) := by decide +kernel
theorem dX12_screens_38 : decode cX12_screens 38 = .ok (.ireturn, 1) := by decide +kernel
theorem dX12_screens_39 : decode cX12_screens 39 = .ok (.aload_n 0, 1) := by decide +kernel
theorem dX12_screens_40 : decode cX12_screens 40 = .ok (.getfield 7, 3) := by decide +kernel
theorem dX12_screens_43 : decode cX12_screens 43 = .ok (.iconst 4, 1) := by decide +kernel
theorem dX12_screens_44 : decode cX12_screens 44 = .ok (.iaload, 1) := by decide +kernel
theorem dX12_screens_45 : decode cX12_screens 45 = .ok (.iconst 4, 1) := by decide +kernel
theorem dX12_screens_46 : decode cX12_screens 46 = .ok (.if_icmp .ne 5, 3) := by decide +kernel
theorem dX12_screens_49 : decode cX12_screens 49 = .ok (.iconst 3, 1) := by decide +kernel
theorem dX12_screens_50 : decode cX12_screens 50 = .ok (.ireturn, 1) := by decide +kernel
theorem dX12_screens_51 : decode cX12_screens 51 = .ok (.aload_n 0, 1) := by decide +kernel
theorem dX12_screens_52 : decode cX12_screens 52 = .ok (.aload_n 0, 1) := by decide +kernel
theorem dX12_screens_53 : decode cX12_screens 53 = .ok (.getfield 7, 3) := by decide +kernel
theorem dX12_screens_56 : decode cX12_screens 56 = .ok (.iconst 4, 1) := by decide +kernel
theorem dX12_screens_57 : decode cX12_screens 57 = .ok (.iaload, 1) := by decide +kernel
theorem dX12_screens_58 : decode cX12_screens 58 = .ok (.putfield 119, 3) := by decide +kernel
theorem dX12_screens_61 : decode cX12_screens 61 = .ok (.bipush 106, 2) := by decide +kernel
theorem dX12_screens_63 : decode cX12_screens 63 = .ok (.iconst 4, 1) := by decide +kernel
theorem dX12_screens_64 : decode cX12_screens 64 = .ok (.aload_n 0, 1) := by decide +kernel
theorem dX12_screens_65 : decode cX12_screens 65 = .ok (.getfield 119, 3) := by decide +kernel
theorem dX12_screens_68 : decode cX12_screens 68 = .ok (.imul, 1) := by decide +kernel
theorem dX12_screens_69 : decode cX12_screens 69 = .ok (.iadd, 1) := by decide +kernel
theorem dX12_screens_70 : decode cX12_screens 70 = .ok (.istore 5, 2) := by decide +kernel
theorem dX12_screens_72 : decode cX12_screens 72 = .ok (.aload_n 0, 1) := by decide +kernel
theorem dX12_screens_73 : decode cX12_screens 73 = .ok (.getfield 7, 3) := by decide +kernel
theorem dX12_screens_76 : decode cX12_screens 76 = .ok (.iload 5, 2) := by decide +kernel
theorem dX12_screens_78 : decode cX12_screens 78 = .ok (.iload_n 1, 1) := by decide +kernel
theorem dX12_screens_79 : decode cX12_screens 79 = .ok (.iastore, 1) := by decide +kernel
theorem dX12_screens_80 : decode cX12_screens 80 = .ok (.aload_n 0, 1) := by decide +kernel
theorem dX12_screens_81 : decode cX12_screens 81 = .ok (.getfield 7, 3) := by decide +kernel
theorem dX12_screens_84 : decode cX12_screens 84 = .ok (.iload 5, 2) := by decide +kernel
theorem dX12_screens_86 : decode cX12_screens 86 = .ok (.iconst 1, 1) := by decide +kernel
theorem dX12_screens_87 : decode cX12_screens 87 = .ok (.iadd, 1) := by decide +kernel
theorem dX12_screens_88 : decode cX12_screens 88 = .ok (.iload_n 2, 1) := by decide +kernel
theorem dX12_screens_89 : decode cX12_screens 89 = .ok (.iastore, 1) := by decide +kernel
theorem dX12_screens_90 : decode cX12_screens 90 = .ok (.aload_n 0, 1) := by decide +kernel
theorem dX12_screens_91 : decode cX12_screens 91 = .ok (.getfield 7, 3) := by decide +kernel
theorem dX12_screens_94 : decode cX12_screens 94 = .ok (.iload 5, 2) := by decide +kernel
theorem dX12_screens_96 : decode cX12_screens 96 = .ok (.iconst 2, 1) := by decide +kernel
theorem dX12_screens_97 : decode cX12_screens 97 = .ok (.iadd, 1) := by decide +kernel
theorem dX12_screens_98 : decode cX12_screens 98 = .ok (.iload_n 3, 1) := by decide +kernel
theorem dX12_screens_99 : decode cX12_screens 99 = .ok (.iastore, 1) := by decide +kernel
theorem dX12_screens_100 : decode cX12_screens 100 = .ok (.aload_n 0, 1) := by decide +kernel
theorem dX12_screens_101 : decode cX12_screens 101 = .ok (.getfield 7, 3) := by decide +kernel
theorem dX12_screens_104 : decode cX12_screens 104 = .ok (.iload 5, 2) := by decide +kernel
theorem dX12_screens_106 : decode cX12_screens 106 = .ok (.iconst 3, 1) := by decide +kernel
theorem dX12_screens_107 : decode cX12_screens 107 = .ok (.iadd, 1) := by decide +kernel
theorem dX12_screens_108 : decode cX12_screens 108 = .ok (.iload 4, 2) := by decide +kernel
theorem dX12_screens_110 : decode cX12_screens 110 = .ok (.iastore, 1) := by decide +kernel
theorem dX12_screens_111 : decode cX12_screens 111 = .ok (.aload_n 0, 1) := by decide +kernel
theorem dX12_screens_112 : decode cX12_screens 112 = .ok (.getfield 7, 3) := by decide +kernel
theorem dX12_screens_115 : decode cX12_screens 115 = .ok (.iconst 4, 1) := by decide +kernel
theorem dX12_screens_116 : decode cX12_screens 116 = .ok (.dup2, 1) := by decide +kernel
theorem dX12_screens_117 : decode cX12_screens 117 = .ok (.iaload, 1) := by decide +kernel
theorem dX12_screens_118 : decode cX12_screens 118 = .ok (.iconst 1, 1) := by decide +kernel
theorem dX12_screens_119 : decode cX12_screens 119 = .ok (.iadd, 1) := by decide +kernel
theorem dX12_screens_120 : decode cX12_screens 120 = .ok (.iastore, 1) := by decide +kernel
theorem dX12_screens_121 : decode cX12_screens 121 = .ok (.iconst 0, 1) := by decide +kernel
theorem dX12_screens_122 : decode cX12_screens 122 = .ok (.ireturn, 1) := by decide +kernel
set_option maxRecDepth 20000 in
theorem ggX12_isSetting_X12_in : GoodIn wsX12_isSetting wsX12_in := goodIn_r _ [4] (by decide +kernel) (by decide +kernel)
set_option maxRecDepth 20000 in
theorem gX12_isSetting_X12_in : GoodIn wsX12_isSetting (va_wsS RX12 116 yX12_in wsX12_in) := goodIn_app (goodIn_of _ (by decide +kernel)) ggX12_isSetting_X12_in
theorem dX12_isSetting_0 : decode cX12_isSetting 0 = .ok (.iload_n 0, 1) := by decide +kernel
theorem dX12_isSetting_1 : decode cX12_isSetting 1 = .ok (.tableswitch 101 0 6 #[43, 53, 60, 68, 76, 85, 92], 43) := by decide +kernel
theorem dX12_isSetting_44 : decode cX12_isSetting 44 = .ok (.iload_n 1, 1) := by decide +kernel
theorem dX12_isSetting_45 : decode cX12_isSetting 45 = .ok (.bipush 100, 2) := by decide +kernel
theorem dX12_isSetting_47 : decode cX12_isSetting 47 = .ok (.sipush 1000, 3) := by decide +kernel
theorem dX12_isSetting_50 : decode cX12_isSetting 50 = .ok (.invokestatic 116, 3) := by decide +kernel
theorem dX12_isSetting_53 : decode cX12_isSetting 53 = .ok (.ireturn, 1) := by decide +kernel
theorem dX12_isSetting_54 : decode cX12_isSetting 54 = .ok (.iload_n 1, 1) := by decide +kernel
theorem dX12_isSetting_55 : decode cX12_isSetting 55 = .ok (.iconst 1, 1) := by decide +kernel
theorem dX12_isSetting_56 : decode cX12_isSetting 56 = .ok (.iconst 2, 1) := by decide +kernel
theorem dX12_isSetting_57 : decode cX12_isSetting 57 = .ok (.invokestatic 116, 3) := by decide +kernel
theorem dX12_isSetting_60 : decode cX12_isSetting 60 = .ok (.ireturn, 1) := by decide +kernel
theorem dX12_isSetting_61 : decode cX12_isSetting 61 = .ok (.iload_n 1, 1) := by decide +kernel
theorem dX12_isSetting_62 : decode cX12_isSetting 62 = .ok (.iconst 0, 1) := by decide +kernel
theorem dX12_isSetting_63 : decode cX12_isSetting 63 = .ok (.bipush 100, 2) := by decide +kernel
theorem dX12_isSetting_65 : decode cX12_isSetting 65 = .ok (.invokestatic 116, 3) := by decide +kernel
theorem dX12_isSetting_68 : decode cX12_isSetting 68 = .ok (.ireturn, 1) := by decide +kernel
theorem dX12_isSetting_69 : decode cX12_isSetting 69 = .ok (.iload_n 1, 1) := by decide +kernel
theorem dX12_isSetting_70 : decode cX12_isSetting 70 = .ok (.iconst 0, 1) := by decide +kernel
theorem dX12_isSetting_71 : decode cX12_isSetting 71 = .ok (.bipush 50, 2) := by decide +kernel
theorem dX12_isSetting_73 : decode cX12_isSetting 73 = .ok (.invokestatic 116, 3) := by decide +kernel
theorem dX12_isSetting_76 : decode cX12_isSetting 76 = .ok (.ireturn, 1) := by decide +kernel
theorem dX12_isSetting_77 : decode cX12_isSetting 77 = .ok (.iload_n 1, 1) := by decide +kernel
theorem dX12_isSetting_78 : decode cX12_isSetting 78 = .ok (.iconst 0, 1) := by decide +kernel
theorem dX12_isSetting_79 : decode cX12_isSetting 79 = .ok (.sipush 1000, 3) := by decide +kernel
theorem dX12_isSetting_82 : decode cX12_isSetting 82 = .ok (.invokestatic 116, 3) := by decide +kernel
theorem dX12_isSetting_85 : decode cX12_isSetting 85 = .ok (.ireturn, 1) := by decide +kernel
theorem dX12_isSetting_86 : decode cX12_isSetting 86 = .ok (.iload_n 1, 1) := by decide +kernel
theorem dX12_isSetting_87 : decode cX12_isSetting 87 = .ok (.iconst 0, 1) := by decide +kernel
theorem dX12_isSetting_88 : decode cX12_isSetting 88 = .ok (.iconst 1, 1) := by decide +kernel
theorem dX12_isSetting_89 : decode cX12_isSetting 89 = .ok (.invokestatic 116, 3) := by decide +kernel
theorem dX12_isSetting_92 : decode cX12_isSetting 92 = .ok (.ireturn, 1) := by decide +kernel
theorem dX12_isSetting_93 : decode cX12_isSetting 93 = .ok (.iload_n 1, 1) := by decide +kernel
theorem dX12_isSetting_94 : decode cX12_isSetting 94 = .ok (.iconst 0, 1) := by decide +kernel
theorem dX12_isSetting_95 : decode cX12_isSetting 95 = .ok (.sipush 500, 3) := by decide +kernel
theorem dX12_isSetting_98 : decode cX12_isSetting 98 = .ok (.invokestatic 116, 3) := by decide +kernel
theorem dX12_isSetting_101 : decode cX12_isSetting 101 = .ok (.ireturn, 1) := by decide +kernel
theorem dX12_isSetting_102 : decode cX12_isSetting 102 = .ok (.iconst 0, 1) := by decide +kernel
theorem dX12_isSetting_103 : decode cX12_isSetting 103 = .ok (.ireturn, 1) := by decide +kernel
set_option maxRecDepth 20000 in
theorem ggX12_sets_X12_isSetting : GoodIn wsX12_sets wsX12_isSetting := goodIn_r _ [6, 7, 8, 5, 9] (by decide +kernel) (by decide +kernel)
set_option maxRecDepth 20000 in
theorem gX12_sets_X12_isSetting : GoodIn wsX12_sets (va_wsS RX12 126 yX12_isSetting wsX12_isSetting) := goodIn_app (goodIn_of _ (by decide +kernel)) ggX12_sets_X12_isSetting
theorem dX12_sets_0 : decode cX12_sets 0 = .ok (.iload_n 1, 1) := by decide +kernel
theorem dX12_sets_1 : decode cX12_sets 1 = .ok (.iload_n 2, 1) := by decide +kernel
theorem dX12_sets_2 : decode cX12_sets 2 = .ok (.invokestatic 126, 3) := by decide +kernel
theorem dX12_sets_5 : decode cX12_sets 5 = .ok (.ifCond .ne 5, 3) := by decide +kernel
theorem dX12_sets_8 : decode cX12_sets 8 = .ok (.iconst 2, 1) := by decide +kernel
theorem dX12_sets_9 : decode cX12_sets 9 = .ok (.ireturn, 1) := by decide +kernel
theorem dX12_sets_10 : decode cX12_sets 10 = .ok (.aload_n 0, 1) := by decide +kernel
theorem dX12_sets_11 : decode cX12_sets 11 = .ok (.aload_n 0, 1) := by decide +kernel
theorem dX12_sets_12 : decode cX12_sets 12 = .ok (.getfield 7, 3) := by decide +kernel
theorem dX12_sets_15 : decode cX12_sets 15 = .ok (.bipush 7, 2) := by decide +kernel
theorem dX12_sets_17 : decode cX12_sets 17 = .ok (.iload_n 1, 1) := by decide +kernel
theorem dX12_sets_18 : decode cX12_sets 18 = .ok (.iadd, 1) := by decide +kernel
theorem dX12_sets_19 : decode cX12_sets 19 = .ok (.iaload, 1) := by decide +kernel
theorem dX12_sets_20 : decode cX12_sets 20 = .ok (.putfield 119, 3) := by decide +kernel
theorem dX12_sets_23 : decode cX12_sets 23 = .ok (.aload_n 0, 1) := by decide +kernel
theorem dX12_sets_24 : decode cX12_sets 24 = .ok (.getfield 7, 3) := by decide +kernel
theorem dX12_sets_27 : decode cX12_sets 27 = .ok (.bipush 7, 2) := by decide +kernel
theorem dX12_sets_29 : decode cX12_sets 29 = .ok (.iload_n 1, 1) := by decide +kernel
theorem dX12_sets_30 : decode cX12_sets 30 = .ok (.iadd, 1) := by decide +kernel
theorem dX12_sets_31 : decode cX12_sets 31 = .ok (.iload_n 2, 1) := by decide +kernel
theorem dX12_sets_32 : decode cX12_sets 32 = .ok (.iastore, 1) := by decide +kernel
theorem dX12_sets_33 : decode cX12_sets 33 = .ok (.iconst 0, 1) := by decide +kernel
theorem dX12_sets_34 : decode cX12_sets 34 = .ok (.ireturn, 1) := by decide +kernel
set_option maxRecDepth 20000 in
theorem ggX12_mayClick_X12_isPlace : GoodIn wsX12_mayClick wsX12_isPlace := goodIn_r _ [6, 7, 8, 5, 9] (by decide +kernel) (by decide +kernel)
set_option maxRecDepth 20000 in
theorem gX12_mayClick_X12_isPlace : GoodIn wsX12_mayClick (va_wsS RX12 122 yX12_isPlace wsX12_isPlace) := goodIn_app (goodIn_of _ (by decide +kernel)) ggX12_mayClick_X12_isPlace
set_option maxRecDepth 20000 in
theorem ggX12_mayClick_X12_in : GoodIn wsX12_mayClick wsX12_in := goodIn_r _ [9] (by decide +kernel) (by decide +kernel)
set_option maxRecDepth 20000 in
theorem gX12_mayClick_X12_in : GoodIn wsX12_mayClick (va_wsS RX12 116 yX12_in wsX12_in) := goodIn_app (goodIn_of _ (by decide +kernel)) ggX12_mayClick_X12_in
theorem dX12_mayClick_0 : decode cX12_mayClick 0 = .ok (.iload_n 1, 1) := by decide +kernel
theorem dX12_mayClick_1 : decode cX12_mayClick 1 = .ok (.invokestatic 122, 3) := by decide +kernel
theorem dX12_mayClick_4 : decode cX12_mayClick 4 = .ok (.ifCond .eq 20, 3) := by decide +kernel
theorem dX12_mayClick_7 : decode cX12_mayClick 7 = .ok (.iload_n 2, 1) := by decide +kernel
theorem dX12_mayClick_8 : decode cX12_mayClick 8 = .ok (.invokestatic 122, 3) := by decide +kernel
theorem dX12_mayClick_11 : decode cX12_mayClick 11 = .ok (.ifCond .eq 13, 3) := by decide +kernel
theorem dX12_mayClick_14 : decode cX12_mayClick 14 = .ok (.iload_n 3, 1) := by decide +kernel
theorem dX12_mayClick_15 : decode cX12_mayClick 15 = .ok (.iconst 0, 1) := by decide +kernel
theorem dX12_mayClick_16 : decode cX12_mayClick 16 = .ok (.ldc 79, 2) := by decide +kernel
theorem dX12_mayClick_18 : decode cX12_mayClick 18 = .ok (.invokestatic 116, 3) := by decide +kernel
theorem dX12_mayClick_21 : decode cX12_mayClick 21 = .ok (.ifCond .ne 5, 3) := by decide +kernel
theorem dX12_mayClick_24 : decode cX12_mayClick 24 = .ok (.iconst 2, 1) := by decide +kernel
theorem dX12_mayClick_25 : decode cX12_mayClick 25 = .ok (.ireturn, 1) := by decide +kernel
theorem dX12_mayClick_26 : decode cX12_mayClick 26 = .ok (.aload_n 0, 1) := by decide +kernel
theorem dX12_mayClick_27 : decode cX12_mayClick 27 = .ok (.getfield 7, 3) := by decide +kernel
theorem dX12_mayClick_30 : decode cX12_mayClick 30 = .ok (.iconst 2, 1) := by decide +kernel
theorem dX12_mayClick_31 : decode cX12_mayClick 31 = .ok (.iaload, 1) := by decide +kernel
theorem dX12_mayClick_32 : decode cX12_mayClick 32 = .ok (.ifCond .ne 7, 3) := by decide +kernel
theorem dX12_mayClick_35 : decode cX12_mayClick 35 = .ok (.iconst 3, 1) := by decide +kernel
theorem dX12_mayClick_36 : decode cX12_mayClick 36 = .ok (.goto 4, 3) := by decide +kernel
theorem dX12_mayClick_39 : decode cX12_mayClick 39 = .ok (.iconst 0, 1) := by decide +kernel
theorem dX12_mayClick_40 : decode cX12_mayClick 40 = .ok (.ireturn, 1) := by decide +kernel
set_option maxRecDepth 20000 in
theorem ggX12_clicks_X12_mayClick : GoodIn wsX12_clicks wsX12_mayClick := goodIn_r _ [7, 8, 1, 9, 10, 6, 11, 12, 13, 14, 83, 84, 85, 86, 87, 88, 89, 90, 91, 92, 93, 94, 95, 96, 97, 98, 99, 100, 101, 102, 103, 104, 105] (by decide +kernel) (by decide +kernel)
set_option maxRecDepth 20000 in
theorem gX12_clicks_X12_mayClick : GoodIn wsX12_clicks (wsV RX12 130 RX12 yX12_mayClick wsX12_mayClick) := goodIn_app (goodIn_of _ (by decide +kernel)) ggX12_clicks_X12_mayClick
set_option maxRecDepth 20000 in
theorem ggX12_clicks_X12_notes : GoodIn wsX12_clicks wsX12_notes := goodIn_r _ [18, 19, 20, 1, 21, 22, 23, 24, 25, 26, 27, 28, 6, 29, 30, 31, 32, 33, 34, 35, 36, 37, 38, 39, 40, 41, 42, 43, 44, 8, 45, 46, 47, 48, 49, 50, 51, 52, 53, 54, 55, 56, 57, 58, 59, 60, 61, 62, 63, 64, 65, 66, 67, 68, 69, 70, 71, 72, 73, 74, 75, 76, 77, 78, 83, 84, 85, 86, 87, 88, 89, 90, 91, 92, 93, 94, 95, 96, 97, 98, 99, 100, 101, 102, 103, 104, 105] (by decide +kernel) (by decide +kernel)
set_option maxRecDepth 20000 in
theorem gX12_clicks_X12_notes : GoodIn wsX12_clicks (wsV RX12 133 RX12 yX12_notes wsX12_notes) := goodIn_app (goodIn_of _ (by decide +kernel)) ggX12_clicks_X12_notes
set_option maxRecDepth 20000 in
theorem ggX12_clicks_X12_noted : GoodIn wsX12_clicks wsX12_noted := goodIn_r _ [82, 1, 34, 35, 36, 6, 37, 83, 84, 85, 86, 87, 88, 89, 90, 91, 92, 93, 94, 95, 96, 97, 98, 99, 100, 101, 102, 103, 104, 105] (by decide +kernel) (by decide +kernel)
set_option maxRecDepth 20000 in
theorem gX12_clicks_X12_noted : GoodIn wsX12_clicks (wsV RX12 137 RX12 yX12_noted wsX12_noted) := goodIn_app (goodIn_of _ (by decide +kernel)) ggX12_clicks_X12_noted
theorem dX12_clicks_0 : decode cX12_clicks 0 = .ok (.aload_n 0, 1) := by decide +kernel
theorem dX12_clicks_1 : decode cX12_clicks 1 = .ok (.iload_n 1, 1) := by decide +kernel
theorem dX12_clicks_2 : decode cX12_clicks 2 = .ok (.iload_n 2, 1) := by decide +kernel
theorem dX12_clicks_3 : decode cX12_clicks 3 = .ok (.iload_n 3, 1) := by decide +kernel
theorem dX12_clicks_4 : decode cX12_clicks 4 = .ok (.invokevirtual 130, 3) := by decide +kernel
theorem dX12_clicks_7 : decode cX12_clicks 7 = .ok (.istore 4, 2) := by decide +kernel
theorem dX12_clicks_9 : decode cX12_clicks 9 = .ok (.iload 4, 2) := by decide +kernel
theorem dX12_clicks_11 : decode cX12_clicks 11 = .ok (.ifCond .le 6, 3) := by decide +kernel
theorem dX12_clicks_14 : decode cX12_clicks 14 = .ok (.iload 4, 2) := by decide +kernel
theorem dX12_clicks_16 : decode cX12_clicks 16 = .ok (.ireturn, 1) := by decide +kernel
theorem dX12_clicks_17 : decode cX12_clicks 17 = .ok (.iconst 0, 1) := by decide +kernel
theorem dX12_clicks_18 : decode cX12_clicks 18 = .ok (.istore 5, 2) := by decide +kernel
theorem dX12_clicks_20 : decode cX12_clicks 20 = .ok (.iload 5, 2) := by decide +kernel
theorem dX12_clicks_22 : decode cX12_clicks 22 = .ok (.aload_n 0, 1) := by decide +kernel
theorem dX12_clicks_23 : decode cX12_clicks 23 = .ok (.getfield 7, 3) := by decide +kernel
theorem dX12_clicks_26 : decode cX12_clicks 26 = .ok (.iconst 2, 1) := by decide +kernel
theorem dX12_clicks_27 : decode cX12_clicks 27 = .ok (.iaload, 1) := by decide +kernel
theorem dX12_clicks_28 : decode cX12_clicks 28 = .ok (.if_icmp .ge 18, 3) := by decide +kernel
theorem dX12_clicks_31 : decode cX12_clicks 31 = .ok (.aload_n 0, 1) := by decide +kernel
theorem dX12_clicks_32 : decode cX12_clicks 32 = .ok (.iload_n 1, 1) := by decide +kernel
theorem dX12_clicks_33 : decode cX12_clicks 33 = .ok (.iload_n 2, 1) := by decide +kernel
theorem dX12_clicks_34 : decode cX12_clicks 34 = .ok (.iload_n 3, 1) := by decide +kernel
theorem dX12_clicks_35 : decode cX12_clicks 35 = .ok (.iload 5, 2) := by decide +kernel
theorem dX12_clicks_37 : decode cX12_clicks 37 = .ok (.invokevirtual 133, 3) := by decide +kernel
theorem dX12_clicks_40 : decode cX12_clicks 40 = .ok (.iinc 5 1, 3) := by decide +kernel
theorem dX12_clicks_43 : decode cX12_clicks 43 = .ok (.goto (-23), 3) := by decide +kernel
theorem dX12_clicks_46 : decode cX12_clicks 46 = .ok (.aload_n 0, 1) := by decide +kernel
theorem dX12_clicks_47 : decode cX12_clicks 47 = .ok (.getfield 7, 3) := by decide +kernel
theorem dX12_clicks_50 : decode cX12_clicks 50 = .ok (.iconst 5, 1) := by decide +kernel
theorem dX12_clicks_51 : decode cX12_clicks 51 = .ok (.dup2, 1) := by decide +kernel
theorem dX12_clicks_52 : decode cX12_clicks 52 = .ok (.iaload, 1) := by decide +kernel
theorem dX12_clicks_53 : decode cX12_clicks 53 = .ok (.iconst 1, 1) := by decide +kernel
theorem dX12_clicks_54 : decode cX12_clicks 54 = .ok (.iadd, 1) := by decide +kernel
theorem dX12_clicks_55 : decode cX12_clicks 55 = .ok (.iastore, 1) := by decide +kernel
theorem dX12_clicks_56 : decode cX12_clicks 56 = .ok (.aload_n 0, 1) := by decide +kernel
theorem dX12_clicks_57 : decode cX12_clicks 57 = .ok (.aload_n 0, 1) := by decide +kernel
theorem dX12_clicks_58 : decode cX12_clicks 58 = .ok (.invokevirtual 137, 3) := by decide +kernel
theorem dX12_clicks_61 : decode cX12_clicks 61 = .ok (.putfield 119, 3) := by decide +kernel
theorem dX12_clicks_64 : decode cX12_clicks 64 = .ok (.iconst 0, 1) := by decide +kernel
theorem dX12_clicks_65 : decode cX12_clicks 65 = .ok (.ireturn, 1) := by decide +kernel
set_option maxRecDepth 20000 in
theorem ggX12_calibrates_X12_mayClick : GoodIn wsX12_calibrates wsX12_mayClick := goodIn_r _ [7, 8, 1, 9, 10, 6, 11, 12, 13, 14, 79, 80, 81, 82, 83, 84, 85, 86, 87, 88, 89, 90, 91, 92, 93, 94, 95, 96, 97, 98, 99, 100, 101] (by decide +kernel) (by decide +kernel)
set_option maxRecDepth 20000 in
theorem gX12_calibrates_X12_mayClick : GoodIn wsX12_calibrates (wsV RX12 130 RX12 yX12_mayClick wsX12_mayClick) := goodIn_app (goodIn_of _ (by decide +kernel)) ggX12_calibrates_X12_mayClick
set_option maxRecDepth 20000 in
theorem ggX12_calibrates_X12_of : GoodIn wsX12_calibrates wsX12_of := goodIn_r _ [18, 1, 79, 80, 81, 82, 83, 84, 85, 86, 87, 88, 89, 90, 91, 92, 93, 94, 95, 96, 97, 98, 99, 100, 101] (by decide +kernel) (by decide +kernel)
set_option maxRecDepth 20000 in
theorem gX12_calibrates_X12_of : GoodIn wsX12_calibrates (wsV RX12 60 RX12 yX12_of wsX12_of) := goodIn_app (goodIn_of _ (by decide +kernel)) ggX12_calibrates_X12_of
set_option maxRecDepth 20000 in
theorem ggX12_calibrates_X12_puts : GoodIn wsX12_calibrates wsX12_puts := goodIn_r _ [22, 1, 79, 80, 81, 82, 83, 84, 85, 86, 87, 88, 89, 90, 91, 92, 93, 94, 95, 96, 97, 98, 99, 100, 101] (by decide +kernel) (by decide +kernel)
set_option maxRecDepth 20000 in
theorem gX12_calibrates_X12_puts : GoodIn wsX12_calibrates (wsV RX12 113 RX12 yX12_puts wsX12_puts) := goodIn_app (goodIn_of _ (by decide +kernel)) ggX12_calibrates_X12_puts
set_option maxRecDepth 20000 in
theorem ggX12_calibrates_X12_notes : GoodIn wsX12_calibrates wsX12_notes := goodIn_r _ [26, 27, 28, 1, 29, 30, 31, 32, 33, 34, 35, 36, 6, 37, 38, 39, 40, 41, 15, 16, 17, 18, 42, 43, 44, 45, 46, 47, 48, 8, 49, 50, 51, 52, 53, 54, 55, 56, 57, 58, 59, 60, 61, 62, 63, 64, 65, 66, 67, 68, 69, 70, 71, 72, 73, 74, 75, 76, 77, 78, 19, 20, 21, 22, 79, 80, 81, 82, 83, 84, 85, 86, 87, 88, 89, 90, 91, 92, 93, 94, 95, 96, 97, 98, 99, 100, 101] (by decide +kernel) (by decide +kernel)
set_option maxRecDepth 20000 in
theorem gX12_calibrates_X12_notes : GoodIn wsX12_calibrates (wsV RX12 133 RX12 yX12_notes wsX12_notes) := goodIn_app (goodIn_of _ (by decide +kernel)) ggX12_calibrates_X12_notes
set_option maxRecDepth 20000 in
theorem ggX12_calibrates_X12_wayTo : GoodIn wsX12_calibrates wsX12_wayTo := goodIn_r _ [52, 15, 16, 17, 6, 18, 1, 53, 54, 55, 79, 80, 81, 82, 83, 84, 85, 86, 87, 88, 89, 90, 91, 92, 93, 94, 95, 96, 97, 98, 99, 100, 101] (by decide +kernel) (by decide +kernel)
set_option maxRecDepth 20000 in
theorem gX12_calibrates_X12_wayTo : GoodIn wsX12_calibrates (wsV RX12 75 RX12 yX12_wayTo wsX12_wayTo) := goodIn_app (goodIn_of _ (by decide +kernel)) ggX12_calibrates_X12_wayTo
set_option maxRecDepth 20000 in
theorem ggX12_calibrates_X12_timeOf : GoodIn wsX12_calibrates wsX12_timeOf := goodIn_r _ [78, 1, 79, 80, 81, 82, 83, 84, 85, 86, 87, 88, 89, 90, 91, 92, 93, 94, 95, 96, 97, 98, 99, 100, 101] (by decide +kernel) (by decide +kernel)
set_option maxRecDepth 20000 in
theorem gX12_calibrates_X12_timeOf : GoodIn wsX12_calibrates (wsV RX12 110 RX12 yX12_timeOf wsX12_timeOf) := goodIn_app (goodIn_of _ (by decide +kernel)) ggX12_calibrates_X12_timeOf
theorem dX12_calibrates_0 : decode cX12_calibrates 0 = .ok (.aload_n 0, 1) := by decide +kernel
theorem dX12_calibrates_1 : decode cX12_calibrates 1 = .ok (.iload_n 1, 1) := by decide +kernel
theorem dX12_calibrates_2 : decode cX12_calibrates 2 = .ok (.iload_n 2, 1) := by decide +kernel
theorem dX12_calibrates_3 : decode cX12_calibrates 3 = .ok (.iload_n 3, 1) := by decide +kernel
theorem dX12_calibrates_4 : decode cX12_calibrates 4 = .ok (.invokevirtual 130, 3) := by decide +kernel
theorem dX12_calibrates_7 : decode cX12_calibrates 7 = .ok (.istore 4, 2) := by decide +kernel
theorem dX12_calibrates_9 : decode cX12_calibrates 9 = .ok (.iload 4, 2) := by decide +kernel
theorem dX12_calibrates_11 : decode cX12_calibrates 11 = .ok (.ifCond .le 6, 3) := by decide +kernel
theorem dX12_calibrates_14 : decode cX12_calibrates 14 = .ok (.iload 4, 2) := by decide +kernel
theorem dX12_calibrates_16 : decode cX12_calibrates 16 = .ok (.ireturn, 1) := by decide +kernel
theorem dX12_calibrates_17 : decode cX12_calibrates 17 = .ok (.iconst 0, 1) := by decide +kernel
theorem dX12_calibrates_18 : decode cX12_calibrates 18 = .ok (.istore 5, 2) := by decide +kernel
theorem dX12_calibrates_20 : decode cX12_calibrates 20 = .ok (.iconst 0, 1) := by decide +kernel
theorem dX12_calibrates_21 : decode cX12_calibrates 21 = .ok (.istore 6, 2) := by decide +kernel
theorem dX12_calibrates_23 : decode cX12_calibrates 23 = .ok (.iload 6, 2) := by decide +kernel
theorem dX12_calibrates_25 : decode cX12_calibrates 25 = .ok (.aload_n 0, 1) := by decide +kernel
theorem dX12_calibrates_26 : decode cX12_calibrates 26 = .ok (.getfield 7, 3) := by decide +kernel
theorem dX12_calibrates_29 : decode cX12_calibrates 29 = .ok (.iconst 2, 1) := by decide +kernel
theorem dX12_calibrates_30 : decode cX12_calibrates 30 = .ok (.iaload, 1) := by decide +kernel
theorem dX12_calibrates_31 : decode cX12_calibrates 31 = .ok (.if_icmp .ge 132, 3) := by decide +kernel
theorem dX12_calibrates_34 : decode cX12_calibrates 34 = .ok (.aload_n 0, 1) := by decide +kernel
theorem dX12_calibrates_35 : decode cX12_calibrates 35 = .ok (.iload 6, 2) := by decide +kernel
theorem dX12_calibrates_37 : decode cX12_calibrates 37 = .ok (.iconst 3, 1) := by decide +kernel
theorem dX12_calibrates_38 : decode cX12_calibrates 38 = .ok (.invokevirtual 60, 3) := by decide +kernel
theorem dX12_calibrates_41 : decode cX12_calibrates 41 = .ok (.istore 7, 2) := by decide +kernel
theorem dX12_calibrates_43 : decode cX12_calibrates 43 = .ok (.aload_n 0, 1) := by decide +kernel
theorem dX12_calibrates_44 : decode cX12_calibrates 44 = .ok (.iload 6, 2) := by decide +kernel
theorem dX12_calibrates_46 : decode cX12_calibrates 46 = .ok (.iconst 3, 1) := by decide +kernel
theorem dX12_calibrates_47 : decode cX12_calibrates 47 = .ok (.iconst 0, 1) := by decide +kernel
theorem dX12_calibrates_48 : decode cX12_calibrates 48 = .ok (.invokevirtual 113, 3) := by decide +kernel
theorem dX12_calibrates_51 : decode cX12_calibrates 51 = .ok (.aload_n 0, 1) := by decide +kernel
theorem dX12_calibrates_52 : decode cX12_calibrates 52 = .ok (.iload_n 1, 1) := by decide +kernel
theorem dX12_calibrates_53 : decode cX12_calibrates 53 = .ok (.iload_n 2, 1) := by decide +kernel
theorem dX12_calibrates_54 : decode cX12_calibrates 54 = .ok (.iload_n 3, 1) := by decide +kernel
theorem dX12_calibrates_55 : decode cX12_calibrates 55 = .ok (.iload 6, 2) := by decide +kernel
theorem dX12_calibrates_57 : decode cX12_calibrates 57 = .ok (.invokevirtual 133, 3) := by decide +kernel
theorem dX12_calibrates_60 : decode cX12_calibrates 60 = .ok (.aload_n 0, 1) := by decide +kernel
theorem dX12_calibrates_61 : decode cX12_calibrates 61 = .ok (.iload 6, 2) := by decide +kernel
theorem dX12_calibrates_63 : decode cX12_calibrates 63 = .ok (.iconst 4, 1) := by decide +kernel
theorem dX12_calibrates_64 : decode cX12_calibrates 64 = .ok (.invokevirtual 60, 3) := by decide +kernel
theorem dX12_calibrates_67 : decode cX12_calibrates 67 = .ok (.iconst 1, 1) := by decide +kernel
theorem dX12_calibrates_68 : decode cX12_calibrates 68 = .ok (.if_icmp .ne 28, 3) := by decide +kernel
theorem dX12_calibrates_71 : decode cX12_calibrates 71 = .ok (.aload_n 0, 1) := by decide +kernel
theorem dX12_calibrates_72 : decode cX12_calibrates 72 = .ok (.iload 6, 2) := by decide +kernel
theorem dX12_calibrates_74 : decode cX12_calibrates 74 = .ok (.iconst 5, 1) := by decide +kernel
theorem dX12_calibrates_75 : decode cX12_calibrates 75 = .ok (.invokevirtual 60, 3) := by decide +kernel
theorem dX12_calibrates_78 : decode cX12_calibrates 78 = .ok (.iload_n 3, 1) := by decide +kernel
theorem dX12_calibrates_79 : decode cX12_calibrates 79 = .ok (.isub, 1) := by decide +kernel
theorem dX12_calibrates_80 : decode cX12_calibrates 80 = .ok (.aload_n 0, 1) := by decide +kernel
theorem dX12_calibrates_81 : decode cX12_calibrates 81 = .ok (.aload_n 0, 1) := by decide +kernel
theorem dX12_calibrates_82 : decode cX12_calibrates 82 = .ok (.iload_n 1, 1) := by decide +kernel
theorem dX12_calibrates_83 : decode cX12_calibrates 83 = .ok (.iload_n 2, 1) := by decide +kernel
theorem dX12_calibrates_84 : decode cX12_calibrates 84 = .ok (.iload 6, 2) := by decide +kernel
theorem dX12_calibrates_86 : decode cX12_calibrates 86 = .ok (.invokevirtual 75, 3) := by decide +kernel
theorem dX12_calibrates_89 : decode cX12_calibrates 89 = .ok (.invokevirtual 110, 3) := by decide +kernel
theorem dX12_calibrates_92 : decode cX12_calibrates 92 = .ok (.isub, 1) := by decide +kernel
theorem dX12_calibrates_93 : decode cX12_calibrates 93 = .ok (.goto 4, 3) := by decide +kernel
theorem dX12_calibrates_96 : decode cX12_calibrates 96 = .ok (.iconst 0, 1) := by decide +kernel
theorem dX12_calibrates_97 : decode cX12_calibrates 97 = .ok (.istore 8, 2) := by decide +kernel
theorem dX12_calibrates_99 : decode cX12_calibrates 99 = .ok (.aload_n 0, 1) := by decide +kernel
theorem dX12_calibrates_100 : decode cX12_calibrates 100 = .ok (.iload 6, 2) := by decide +kernel
theorem dX12_calibrates_102 : decode cX12_calibrates 102 = .ok (.iconst 3, 1) := by decide +kernel
theorem dX12_calibrates_103 : decode cX12_calibrates 103 = .ok (.iload 8, 2) := by decide +kernel
theorem dX12_calibrates_105 : decode cX12_calibrates 105 = .ok (.invokevirtual 113, 3) := by decide +kernel
theorem dX12_calibrates_108 : decode cX12_calibrates 108 = .ok (.aload_n 0, 1) := by decide +kernel
theorem dX12_calibrates_109 : decode cX12_calibrates 109 = .ok (.iload 6, 2) := by decide +kernel
theorem dX12_calibrates_111 : decode cX12_calibrates 111 = .ok (.iconst 5, 1) := by decide +kernel
theorem dX12_calibrates_112 : decode cX12_calibrates 112 = .ok (.aload_n 0, 1) := by decide +kernel
theorem dX12_calibrates_113 : decode cX12_calibrates 113 = .ok (.iload 6, 2) := by decide +kernel
theorem dX12_calibrates_115 : decode cX12_calibrates 115 = .ok (.iconst 4, 1) := by decide +kernel
theorem dX12_calibrates_116 : decode cX12_calibrates 116 = .ok (.invokevirtual 60, 3) := by decide +kernel
theorem dX12_calibrates_119 : decode cX12_calibrates 119 = .ok (.iconst 1, 1) := by decide +kernel
theorem dX12_calibrates_120 : decode cX12_calibrates 120 = .ok (.if_icmp .ne 16, 3) := by decide +kernel
theorem dX12_calibrates_123 : decode cX12_calibrates 123 = .ok (.aload_n 0, 1) := by decide +kernel
theorem dX12_calibrates_124 : decode cX12_calibrates 124 = .ok (.iload 6, 2) := by decide +kernel
theorem dX12_calibrates_126 : decode cX12_calibrates 126 = .ok (.iconst 5, 1) := by decide +kernel
theorem dX12_calibrates_127 : decode cX12_calibrates 127 = .ok (.invokevirtual 60, 3) := by decide +kernel
theorem dX12_calibrates_130 : decode cX12_calibrates 130 = .ok (.iload 8, 2) := by decide +kernel
theorem dX12_calibrates_132 : decode cX12_calibrates 132 = .ok (.isub, 1) := by decide +kernel
theorem dX12_calibrates_133 : decode cX12_calibrates 133 = .ok (.goto 4, 3) := by decide +kernel
theorem dX12_calibrates_136 : decode cX12_calibrates 136 = .ok (.iconst 0, 1) := by decide +kernel
theorem dX12_calibrates_137 : decode cX12_calibrates 137 = .ok (.invokevirtual 113, 3) := by decide +kernel
theorem dX12_calibrates_140 : decode cX12_calibrates 140 = .ok (.iload 5, 2) := by decide +kernel
theorem dX12_calibrates_142 : decode cX12_calibrates 142 = .ok (.iload 8, 2) := by decide +kernel
theorem dX12_calibrates_144 : decode cX12_calibrates 144 = .ok (.iload 7, 2) := by decide +kernel
theorem dX12_calibrates_146 : decode cX12_calibrates 146 = .ok (.if_icmp .ne 7, 3) := by decide +kernel
theorem dX12_calibrates_149 : decode cX12_calibrates 149 = .ok (.iconst 0, 1) := by decide +kernel
theorem dX12_calibrates_150 : decode cX12_calibrates 150 = .ok (.goto 4, 3) := by decide +kernel
theorem dX12_calibrates_153 : decode cX12_calibrates 153 = .ok (.iconst 1, 1) := by decide +kernel
theorem dX12_calibrates_154 : decode cX12_calibrates 154 = .ok (.iadd, 1) := by decide +kernel
theorem dX12_calibrates_155 : decode cX12_calibrates 155 = .ok (.istore 5, 2) := by decide +kernel
theorem dX12_calibrates_157 : decode cX12_calibrates 157 = .ok (.iinc 6 1, 3) := by decide +kernel
theorem dX12_calibrates_160 : decode cX12_calibrates 160 = .ok (.goto (-137), 3) := by decide +kernel
theorem dX12_calibrates_163 : decode cX12_calibrates 163 = .ok (.aload_n 0, 1) := by decide +kernel
theorem dX12_calibrates_164 : decode cX12_calibrates 164 = .ok (.getfield 7, 3) := by decide +kernel
theorem dX12_calibrates_167 : decode cX12_calibrates 167 = .ok (.iconst 5, 1) := by decide +kernel
theorem dX12_calibrates_168 : decode cX12_calibrates 168 = .ok (.dup2, 1) := by decide +kernel
theorem dX12_calibrates_169 : decode cX12_calibrates 169 = .ok (.iaload, 1) := by decide +kernel
theorem dX12_calibrates_170 : decode cX12_calibrates 170 = .ok (.iconst 1, 1) := by decide +kernel
theorem dX12_calibrates_171 : decode cX12_calibrates 171 = .ok (.iadd, 1) := by decide +kernel
theorem dX12_calibrates_172 : decode cX12_calibrates 172 = .ok (.iastore, 1) := by decide +kernel
theorem dX12_calibrates_173 : decode cX12_calibrates 173 = .ok (.aload_n 0, 1) := by decide +kernel
theorem dX12_calibrates_174 : decode cX12_calibrates 174 = .ok (.iload 5, 2) := by decide +kernel
theorem dX12_calibrates_176 : decode cX12_calibrates 176 = .ok (.putfield 119, 3) := by decide +kernel
theorem dX12_calibrates_179 : decode cX12_calibrates 179 = .ok (.iconst 0, 1) := by decide +kernel
theorem dX12_calibrates_180 : decode cX12_calibrates 180 = .ok (.ireturn, 1) := by decide +kernel
set_option maxRecDepth 20000 in
theorem ggX12_done_X12_fails : GoodIn wsX12_done wsX12_fails := goodIn_r _ [6, 7, 19, 20, 21, 22, 23, 24, 25, 26, 27, 28, 29, 30, 31, 32, 33, 34, 35, 36, 37, 38, 39, 40, 41] (by decide +kernel) (by decide +kernel)
set_option maxRecDepth 20000 in
theorem gX12_done_X12_fails : GoodIn wsX12_done (wsV RX12 141 RX12 yX12_fails wsX12_fails) := goodIn_app (goodIn_of _ (by decide +kernel)) ggX12_done_X12_fails
set_option maxRecDepth 20000 in
theorem ggX12_done_X12_ends : GoodIn wsX12_done wsX12_ends := goodIn_r _ [11, 12, 13, 14, 15, 16, 17, 5, 18, 7, 19, 20, 21, 22, 23, 24, 25, 26, 27, 28, 29, 30, 31, 32, 33, 34, 35, 36, 37, 38, 39, 40, 41] (by decide +kernel) (by decide +kernel)
set_option maxRecDepth 20000 in
theorem gX12_done_X12_ends : GoodIn wsX12_done (wsV RX12 144 RX12 yX12_ends wsX12_ends) := goodIn_app (goodIn_of _ (by decide +kernel)) ggX12_done_X12_ends
theorem dX12_done_0 : decode cX12_done 0 = .ok (.iload_n 1, 1) := by decide +kernel
theorem dX12_done_1 : decode cX12_done 1 = .ok (.ifCond .le 13, 3) := by decide +kernel
theorem dX12_done_4 : decode cX12_done 4 = .ok (.aload_n 0, 1) := by decide +kernel
theorem dX12_done_5 : decode cX12_done 5 = .ok (.iload_n 1, 1) := by decide +kernel
theorem dX12_done_6 : decode cX12_done 6 = .ok (.iconst 1, 1) := by decide +kernel
theorem dX12_done_7 : decode cX12_done 7 = .ok (.isub, 1) := by decide +kernel
theorem dX12_done_8 : decode cX12_done 8 = .ok (.invokevirtual 141, 3) := by decide +kernel
theorem dX12_done_11 : decode cX12_done 11 = .ok (.goto 11, 3) := by decide +kernel
theorem dX12_done_14 : decode cX12_done 14 = .ok (.aload_n 0, 1) := by decide +kernel
theorem dX12_done_15 : decode cX12_done 15 = .ok (.aload_n 0, 1) := by decide +kernel
theorem dX12_done_16 : decode cX12_done 16 = .ok (.getfield 119, 3) := by decide +kernel
theorem dX12_done_19 : decode cX12_done 19 = .ok (.invokevirtual 144, 3) := by decide +kernel
theorem dX12_done_22 : decode cX12_done 22 = .ok (.ireturn, 1) := by decide +kernel
set_option maxRecDepth 20000 in
theorem ggX12_begin_X12_hold : GoodIn wsX12_begin wsX12_hold := goodIn_r _ [5, 6, 7, 35, 36, 37, 38, 39, 40, 41, 42, 43, 44, 45, 46, 47, 48, 49, 50, 51, 52, 53, 54, 55, 56, 57] (by decide +kernel) (by decide +kernel)
set_option maxRecDepth 20000 in
theorem gX12_begin_X12_hold : GoodIn wsX12_begin (wsV RX12 147 RX12 yX12_hold wsX12_hold) := goodIn_app (goodIn_of _ (by decide +kernel)) ggX12_begin_X12_hold
set_option maxRecDepth 20000 in
theorem ggX12_begin_X12_begins : GoodIn wsX12_begin wsX12_begins := goodIn_r _ [11, 7, 12, 13, 14, 4, 15, 35, 36, 37, 38, 39, 40, 41, 42, 43, 44, 45, 46, 47, 48, 49, 50, 51, 52, 53, 54, 55, 56, 57] (by decide +kernel) (by decide +kernel)
set_option maxRecDepth 20000 in
theorem gX12_begin_X12_begins : GoodIn wsX12_begin (wsV RX12 150 RX12 yX12_begins wsX12_begins) := goodIn_app (goodIn_of _ (by decide +kernel)) ggX12_begin_X12_begins
set_option maxRecDepth 20000 in
theorem ggX12_begin_X12_done : GoodIn wsX12_begin wsX12_done := goodIn_r _ [19, 12, 20, 21, 22, 4, 23, 24, 25, 26, 27, 28, 29, 30, 6, 31, 32, 33, 34, 35, 36, 37, 38, 39, 40, 41, 42, 43, 44, 45, 46, 47, 48, 49, 50, 51, 52, 53, 54, 55, 56, 57] (by decide +kernel) (by decide +kernel)
set_option maxRecDepth 20000 in
theorem gX12_begin_X12_done : GoodIn wsX12_begin (wsV RX12 153 RX12 yX12_done wsX12_done) := goodIn_app (goodIn_of _ (by decide +kernel)) ggX12_begin_X12_done
theorem dX12_begin_0 : decode cX12_begin 0 = .ok (.aload_n 0, 1) := by decide +kernel
theorem dX12_begin_1 : decode cX12_begin 1 = .ok (.invokevirtual 147, 3) := by decide +kernel
theorem dX12_begin_4 : decode cX12_begin 4 = .ok (.aload_n 0, 1) := by decide +kernel
theorem dX12_begin_5 : decode cX12_begin 5 = .ok (.aload_n 0, 1) := by decide +kernel
theorem dX12_begin_6 : decode cX12_begin 6 = .ok (.iload_n 1, 1) := by decide +kernel
theorem dX12_begin_7 : decode cX12_begin 7 = .ok (.iload_n 2, 1) := by decide +kernel
theorem dX12_begin_8 : decode cX12_begin 8 = .ok (.invokevirtual 150, 3) := by decide +kernel
theorem dX12_begin_11 : decode cX12_begin 11 = .ok (.invokevirtual 153, 3) := by decide +kernel
theorem dX12_begin_14 : decode cX12_begin 14 = .ok (.ireturn, 1) := by decide +kernel
set_option maxRecDepth 20000 in
theorem ggX12_addMicrophone_X12_hold : GoodIn wsX12_addMicrophone wsX12_hold := goodIn_r _ [5, 6, 7, 39, 40, 41, 42, 43, 44, 45, 46, 47, 48, 49, 50, 51, 52, 53, 54, 55, 56, 57, 58, 59, 60, 61] (by decide +kernel) (by decide +kernel)
set_option maxRecDepth 20000 in
theorem gX12_addMicrophone_X12_hold : GoodIn wsX12_addMicrophone (wsV RX12 147 RX12 yX12_hold wsX12_hold) := goodIn_app (goodIn_of _ (by decide +kernel)) ggX12_addMicrophone_X12_hold
set_option maxRecDepth 20000 in
theorem ggX12_addMicrophone_X12_comes : GoodIn wsX12_addMicrophone wsX12_comes := goodIn_r _ [11, 7, 12, 13, 14, 4, 15, 16, 17, 18, 19, 39, 40, 41, 42, 43, 44, 45, 46, 47, 48, 49, 50, 51, 52, 53, 54, 55, 56, 57, 58, 59, 60, 61] (by decide +kernel) (by decide +kernel)
set_option maxRecDepth 20000 in
theorem gX12_addMicrophone_X12_comes : GoodIn wsX12_addMicrophone (wsV RX12 156 RX12 yX12_comes wsX12_comes) := goodIn_app (goodIn_of _ (by decide +kernel)) ggX12_addMicrophone_X12_comes
set_option maxRecDepth 20000 in
theorem ggX12_addMicrophone_X12_done : GoodIn wsX12_addMicrophone wsX12_done := goodIn_r _ [23, 12, 24, 25, 26, 4, 27, 28, 29, 30, 31, 32, 33, 34, 6, 35, 36, 37, 38, 39, 40, 41, 42, 43, 44, 45, 46, 47, 48, 49, 50, 51, 52, 53, 54, 55, 56, 57, 58, 59, 60, 61] (by decide +kernel) (by decide +kernel)
set_option maxRecDepth 20000 in
theorem gX12_addMicrophone_X12_done : GoodIn wsX12_addMicrophone (wsV RX12 153 RX12 yX12_done wsX12_done) := goodIn_app (goodIn_of _ (by decide +kernel)) ggX12_addMicrophone_X12_done
theorem dX12_addMicrophone_0 : decode cX12_addMicrophone 0 = .ok (.aload_n 0, 1) := by decide +kernel
theorem dX12_addMicrophone_1 : decode cX12_addMicrophone 1 = .ok (.invokevirtual 147, 3) := by decide +kernel
theorem dX12_addMicrophone_4 : decode cX12_addMicrophone 4 = .ok (.aload_n 0, 1) := by decide +kernel
theorem dX12_addMicrophone_5 : decode cX12_addMicrophone 5 = .ok (.aload_n 0, 1) := by decide +kernel
theorem dX12_addMicrophone_6 : decode cX12_addMicrophone 6 = .ok (.iload_n 1, 1) := by decide +kernel
theorem dX12_addMicrophone_7 : decode cX12_addMicrophone 7 = .ok (.iload_n 2, 1) := by decide +kernel
theorem dX12_addMicrophone_8 : decode cX12_addMicrophone 8 = .ok (.invokevirtual 156, 3) := by decide +kernel
theorem dX12_addMicrophone_11 : decode cX12_addMicrophone 11 = .ok (.invokevirtual 153, 3) := by decide +kernel
theorem dX12_addMicrophone_14 : decode cX12_addMicrophone 14 = .ok (.ireturn, 1) := by decide +kernel
set_option maxRecDepth 20000 in
theorem ggX12_setClock_X12_isMicrophone : GoodIn wsX12_setClock wsX12_isMicrophone := goodIn_r _ [5, 6, 38, 39, 40, 41, 42, 43, 44, 45, 46, 47, 48, 49, 50, 51, 52, 53, 54, 55, 56, 57, 58, 59, 60] (by decide +kernel) (by decide +kernel)
set_option maxRecDepth 20000 in
theorem gX12_setClock_X12_isMicrophone : GoodIn wsX12_setClock (wsV RX12 159 RX12 yX12_isMicrophone wsX12_isMicrophone) := goodIn_app (goodIn_of _ (by decide +kernel)) ggX12_setClock_X12_isMicrophone
set_option maxRecDepth 20000 in
theorem ggX12_setClock_X12_fails : GoodIn wsX12_setClock wsX12_fails := goodIn_r _ [10, 11, 38, 39, 40, 41, 42, 43, 44, 45, 46, 47, 48, 49, 50, 51, 52, 53, 54, 55, 56, 57, 58, 59, 60] (by decide +kernel) (by decide +kernel)
set_option maxRecDepth 20000 in
theorem gX12_setClock_X12_fails : GoodIn wsX12_setClock (wsV RX12 141 RX12 yX12_fails wsX12_fails) := goodIn_app (goodIn_of _ (by decide +kernel)) ggX12_setClock_X12_fails
set_option maxRecDepth 20000 in
theorem ggX12_setClock_X12_in : GoodIn wsX12_setClock wsX12_in := goodIn_r _ [14] (by decide +kernel) (by decide +kernel)
set_option maxRecDepth 20000 in
theorem gX12_setClock_X12_in : GoodIn wsX12_setClock (va_wsS RX12 116 yX12_in wsX12_in) := goodIn_app (goodIn_of _ (by decide +kernel)) ggX12_setClock_X12_in
set_option maxRecDepth 20000 in
theorem ggX12_setClock_X12_hold : GoodIn wsX12_setClock wsX12_hold := goodIn_r _ [18, 19, 6, 38, 39, 40, 41, 42, 43, 44, 45, 46, 47, 48, 49, 50, 51, 52, 53, 54, 55, 56, 57, 58, 59, 60] (by decide +kernel) (by decide +kernel)
set_option maxRecDepth 20000 in
theorem gX12_setClock_X12_hold : GoodIn wsX12_setClock (wsV RX12 147 RX12 yX12_hold wsX12_hold) := goodIn_app (goodIn_of _ (by decide +kernel)) ggX12_setClock_X12_hold
set_option maxRecDepth 20000 in
theorem ggX12_setClock_X12_of : GoodIn wsX12_setClock wsX12_of := goodIn_r _ [23, 6, 38, 39, 40, 41, 42, 43, 44, 45, 46, 47, 48, 49, 50, 51, 52, 53, 54, 55, 56, 57, 58, 59, 60] (by decide +kernel) (by decide +kernel)
set_option maxRecDepth 20000 in
theorem gX12_setClock_X12_of : GoodIn wsX12_setClock (wsV RX12 60 RX12 yX12_of wsX12_of) := goodIn_app (goodIn_of _ (by decide +kernel)) ggX12_setClock_X12_of
set_option maxRecDepth 20000 in
theorem ggX12_setClock_X12_puts : GoodIn wsX12_setClock wsX12_puts := goodIn_r _ [27, 6, 38, 39, 40, 41, 42, 43, 44, 45, 46, 47, 48, 49, 50, 51, 52, 53, 54, 55, 56, 57, 58, 59, 60] (by decide +kernel) (by decide +kernel)
set_option maxRecDepth 20000 in
theorem gX12_setClock_X12_puts : GoodIn wsX12_setClock (wsV RX12 113 RX12 yX12_puts wsX12_puts) := goodIn_app (goodIn_of _ (by decide +kernel)) ggX12_setClock_X12_puts
set_option maxRecDepth 20000 in
theorem ggX12_setClock_X12_ends : GoodIn wsX12_setClock wsX12_ends := goodIn_r _ [31, 32, 33, 19, 34, 35, 36, 4, 37, 11, 38, 39, 40, 41, 42, 43, 44, 45, 46, 47, 48, 49, 50, 51, 52, 53, 54, 55, 56, 57, 58, 59, 60] (by decide +kernel) (by decide +kernel)
set_option maxRecDepth 20000 in
theorem gX12_setClock_X12_ends : GoodIn wsX12_setClock (wsV RX12 144 RX12 yX12_ends wsX12_ends) := goodIn_app (goodIn_of _ (by decide +kernel)) ggX12_setClock_X12_ends
theorem dX12_setClock_0 : decode cX12_setClock 0 = .ok (.aload_n 0, 1) := by decide +kernel
theorem dX12_setClock_1 : decode cX12_setClock 1 = .ok (.iload_n 1, 1) := by decide +kernel
theorem dX12_setClock_2 : decode cX12_setClock 2 = .ok (.invokevirtual 159, 3) := by decide +kernel
theorem dX12_setClock_5 : decode cX12_setClock 5 = .ok (.ifCond .ne 9, 3) := by decide +kernel
theorem dX12_setClock_8 : decode cX12_setClock 8 = .ok (.aload_n 0, 1) := by decide +kernel
theorem dX12_setClock_9 : decode cX12_setClock 9 = .ok (.iconst 1, 1) := by decide +kernel
theorem dX12_setClock_10 : decode cX12_setClock 10 = .ok (.invokevirtual 141, 3) := by decide +kernel
theorem dX12_setClock_13 : decode cX12_setClock 13 = .ok (.ireturn, 1) := by decide +kernel
theorem dX12_setClock_14 : decode cX12_setClock 14 = .ok (.iload_n 2, 1) := by decide +kernel
theorem dX12_setClock_15 : decode cX12_setClock 15 = .ok (.sipush (-500), 3) := by decide +kernel
theorem dX12_setClock_18 : decode cX12_setClock 18 = .ok (.sipush 500, 3) := by decide +kernel
theorem dX12_setClock_21 : decode cX12_setClock 21 = .ok (.invokestatic 116, 3) := by decide +kernel
theorem dX12_setClock_24 : decode cX12_setClock 24 = .ok (.ifCond .ne 9, 3) := by decide +kernel
theorem dX12_setClock_27 : decode cX12_setClock 27 = .ok (.aload_n 0, 1) := by decide +kernel
theorem dX12_setClock_28 : decode cX12_setClock 28 = .ok (.iconst 2, 1) := by decide +kernel
theorem dX12_setClock_29 : decode cX12_setClock 29 = .ok (.invokevirtual 141, 3) := by decide +kernel
theorem dX12_setClock_32 : decode cX12_setClock 32 = .ok (.ireturn, 1) := by decide +kernel
theorem dX12_setClock_33 : decode cX12_setClock 33 = .ok (.aload_n 0, 1) := by decide +kernel
theorem dX12_setClock_34 : decode cX12_setClock 34 = .ok (.invokevirtual 147, 3) := by decide +kernel
theorem dX12_setClock_37 : decode cX12_setClock 37 = .ok (.aload_n 0, 1) := by decide +kernel
theorem dX12_setClock_38 : decode cX12_setClock 38 = .ok (.iload_n 1, 1) := by decide +kernel
theorem dX12_setClock_39 : decode cX12_setClock 39 = .ok (.iconst 2, 1) := by decide +kernel
theorem dX12_setClock_40 : decode cX12_setClock 40 = .ok (.invokevirtual 60, 3) := by decide +kernel
theorem dX12_setClock_43 : decode cX12_setClock 43 = .ok (.istore_n 3, 1) := by decide +kernel
theorem dX12_setClock_44 : decode cX12_setClock 44 = .ok (.aload_n 0, 1) := by decide +kernel
theorem dX12_setClock_45 : decode cX12_setClock 45 = .ok (.iload_n 1, 1) := by decide +kernel
theorem dX12_setClock_46 : decode cX12_setClock 46 = .ok (.iconst 2, 1) := by decide +kernel
theorem dX12_setClock_47 : decode cX12_setClock 47 = .ok (.iload_n 2, 1) := by decide +kernel
theorem dX12_setClock_48 : decode cX12_setClock 48 = .ok (.invokevirtual 113, 3) := by decide +kernel
theorem dX12_setClock_51 : decode cX12_setClock 51 = .ok (.aload_n 0, 1) := by decide +kernel
theorem dX12_setClock_52 : decode cX12_setClock 52 = .ok (.iload_n 3, 1) := by decide +kernel
theorem dX12_setClock_53 : decode cX12_setClock 53 = .ok (.invokevirtual 144, 3) := by decide +kernel
theorem dX12_setClock_56 : decode cX12_setClock 56 = .ok (.ireturn, 1) := by decide +kernel
set_option maxRecDepth 20000 in
theorem ggX12_addWall_X12_hold : GoodIn wsX12_addWall wsX12_hold := goodIn_r _ [5, 6, 7, 38, 39, 40, 41, 42, 43, 44, 45, 46, 47, 48, 49, 50, 51, 52, 53, 54, 55, 56, 57, 58, 59, 60] (by decide +kernel) (by decide +kernel)
set_option maxRecDepth 20000 in
theorem gX12_addWall_X12_hold : GoodIn wsX12_addWall (wsV RX12 147 RX12 yX12_hold wsX12_hold) := goodIn_app (goodIn_of _ (by decide +kernel)) ggX12_addWall_X12_hold
set_option maxRecDepth 20000 in
theorem ggX12_addWall_X12_walls : GoodIn wsX12_addWall wsX12_walls := goodIn_r _ [11, 7, 12, 13, 14, 4, 15, 16, 17, 18, 38, 39, 40, 41, 42, 43, 44, 45, 46, 47, 48, 49, 50, 51, 52, 53, 54, 55, 56, 57, 58, 59, 60] (by decide +kernel) (by decide +kernel)
set_option maxRecDepth 20000 in
theorem gX12_addWall_X12_walls : GoodIn wsX12_addWall (wsV RX12 162 RX12 yX12_walls wsX12_walls) := goodIn_app (goodIn_of _ (by decide +kernel)) ggX12_addWall_X12_walls
set_option maxRecDepth 20000 in
theorem ggX12_addWall_X12_done : GoodIn wsX12_addWall wsX12_done := goodIn_r _ [22, 12, 23, 24, 25, 4, 26, 27, 28, 29, 30, 31, 32, 33, 6, 34, 35, 36, 37, 38, 39, 40, 41, 42, 43, 44, 45, 46, 47, 48, 49, 50, 51, 52, 53, 54, 55, 56, 57, 58, 59, 60] (by decide +kernel) (by decide +kernel)
set_option maxRecDepth 20000 in
theorem gX12_addWall_X12_done : GoodIn wsX12_addWall (wsV RX12 153 RX12 yX12_done wsX12_done) := goodIn_app (goodIn_of _ (by decide +kernel)) ggX12_addWall_X12_done
theorem dX12_addWall_0 : decode cX12_addWall 0 = .ok (.aload_n 0, 1) := by decide +kernel
theorem dX12_addWall_1 : decode cX12_addWall 1 = .ok (.invokevirtual 147, 3) := by decide +kernel
theorem dX12_addWall_4 : decode cX12_addWall 4 = .ok (.aload_n 0, 1) := by decide +kernel
theorem dX12_addWall_5 : decode cX12_addWall 5 = .ok (.aload_n 0, 1) := by decide +kernel
theorem dX12_addWall_6 : decode cX12_addWall 6 = .ok (.iload_n 1, 1) := by decide +kernel
theorem dX12_addWall_7 : decode cX12_addWall 7 = .ok (.iload_n 2, 1) := by decide +kernel
theorem dX12_addWall_8 : decode cX12_addWall 8 = .ok (.iload_n 3, 1) := by decide +kernel
theorem dX12_addWall_9 : decode cX12_addWall 9 = .ok (.invokevirtual 162, 3) := by decide +kernel
theorem dX12_addWall_12 : decode cX12_addWall 12 = .ok (.invokevirtual 153, 3) := by decide +kernel
theorem dX12_addWall_15 : decode cX12_addWall 15 = .ok (.ireturn, 1) := by decide +kernel
set_option maxRecDepth 20000 in
theorem ggX12_addScreen_X12_hold : GoodIn wsX12_addScreen wsX12_hold := goodIn_r _ [5, 6, 7, 38, 39, 40, 41, 42, 43, 44, 45, 46, 47, 48, 49, 50, 51, 52, 53, 54, 55, 56, 57, 58, 59, 60] (by decide +kernel) (by decide +kernel)
set_option maxRecDepth 20000 in
theorem gX12_addScreen_X12_hold : GoodIn wsX12_addScreen (wsV RX12 147 RX12 yX12_hold wsX12_hold) := goodIn_app (goodIn_of _ (by decide +kernel)) ggX12_addScreen_X12_hold
set_option maxRecDepth 20000 in
theorem ggX12_addScreen_X12_screens : GoodIn wsX12_addScreen wsX12_screens := goodIn_r _ [11, 7, 12, 13, 14, 4, 15, 16, 17, 18, 38, 39, 40, 41, 42, 43, 44, 45, 46, 47, 48, 49, 50, 51, 52, 53, 54, 55, 56, 57, 58, 59, 60] (by decide +kernel) (by decide +kernel)
set_option maxRecDepth 20000 in
theorem gX12_addScreen_X12_screens : GoodIn wsX12_addScreen (wsV RX12 165 RX12 yX12_screens wsX12_screens) := goodIn_app (goodIn_of _ (by decide +kernel)) ggX12_addScreen_X12_screens
set_option maxRecDepth 20000 in
theorem ggX12_addScreen_X12_done : GoodIn wsX12_addScreen wsX12_done := goodIn_r _ [22, 12, 23, 24, 25, 4, 26, 27, 28, 29, 30, 31, 32, 33, 6, 34, 35, 36, 37, 38, 39, 40, 41, 42, 43, 44, 45, 46, 47, 48, 49, 50, 51, 52, 53, 54, 55, 56, 57, 58, 59, 60] (by decide +kernel) (by decide +kernel)
set_option maxRecDepth 20000 in
theorem gX12_addScreen_X12_done : GoodIn wsX12_addScreen (wsV RX12 153 RX12 yX12_done wsX12_done) := goodIn_app (goodIn_of _ (by decide +kernel)) ggX12_addScreen_X12_done
theorem dX12_addScreen_0 : decode cX12_addScreen 0 = .ok (.aload_n 0, 1) := by decide +kernel
theorem dX12_addScreen_1 : decode cX12_addScreen 1 = .ok (.invokevirtual 147, 3) := by decide +kernel
theorem dX12_addScreen_4 : decode cX12_addScreen 4 = .ok (.aload_n 0, 1) := by decide +kernel
theorem dX12_addScreen_5 : decode cX12_addScreen 5 = .ok (.aload_n 0, 1) := by decide +kernel
theorem dX12_addScreen_6 : decode cX12_addScreen 6 = .ok (.iload_n 1, 1) := by decide +kernel
theorem dX12_addScreen_7 : decode cX12_addScreen 7 = .ok (.iload_n 2, 1) := by decide +kernel
theorem dX12_addScreen_8 : decode cX12_addScreen 8 = .ok (.iload_n 3, 1) := by decide +kernel
theorem dX12_addScreen_9 : decode cX12_addScreen 9 = .ok (.iload 4, 2) := by decide +kernel
theorem dX12_addScreen_11 : decode cX12_addScreen 11 = .ok (.invokevirtual 165, 3) := by decide +kernel
theorem dX12_addScreen_14 : decode cX12_addScreen 14 = .ok (.invokevirtual 153, 3) := by decide +kernel
theorem dX12_addScreen_17 : decode cX12_addScreen 17 = .ok (.ireturn, 1) := by decide +kernel
theorem dX12_wide_0 : decode cX12_wide 0 = .ok (.iload_n 0, 1) := by decide +kernel
theorem dX12_wide_1 : decode cX12_wide 1 = .ok (.ifCond .ne 8, 3) := by decide +kernel
theorem dX12_wide_4 : decode cX12_wide 4 = .ok (.bipush 10, 2) := by decide +kernel
theorem dX12_wide_6 : decode cX12_wide 6 = .ok (.goto 13, 3) := by decide +kernel
theorem dX12_wide_9 : decode cX12_wide 9 = .ok (.iload_n 0, 1) := by decide +kernel
theorem dX12_wide_10 : decode cX12_wide 10 = .ok (.iconst 1, 1) := by decide +kernel
theorem dX12_wide_11 : decode cX12_wide 11 = .ok (.if_icmp .ne 7, 3) := by decide +kernel
theorem dX12_wide_14 : decode cX12_wide 14 = .ok (.iconst 3, 1) := by decide +kernel
theorem dX12_wide_15 : decode cX12_wide 15 = .ok (.goto 4, 3) := by decide +kernel
theorem dX12_wide_18 : decode cX12_wide 18 = .ok (.iconst 4, 1) := by decide +kernel
theorem dX12_wide_19 : decode cX12_wide 19 = .ok (.ireturn, 1) := by decide +kernel
theorem dX12_startOf_0 : decode cX12_startOf 0 = .ok (.iload_n 0, 1) := by decide +kernel
theorem dX12_startOf_1 : decode cX12_startOf 1 = .ok (.ifCond .ne 8, 3) := by decide +kernel
theorem dX12_startOf_4 : decode cX12_startOf 4 = .ok (.bipush 14, 2) := by decide +kernel
theorem dX12_startOf_6 : decode cX12_startOf 6 = .ok (.goto 15, 3) := by decide +kernel
theorem dX12_startOf_9 : decode cX12_startOf 9 = .ok (.iload_n 0, 1) := by decide +kernel
theorem dX12_startOf_10 : decode cX12_startOf 10 = .ok (.iconst 1, 1) := by decide +kernel
theorem dX12_startOf_11 : decode cX12_startOf 11 = .ok (.if_icmp .ne 8, 3) := by decide +kernel
theorem dX12_startOf_14 : decode cX12_startOf 14 = .ok (.bipush 94, 2) := by decide +kernel
theorem dX12_startOf_16 : decode cX12_startOf 16 = .ok (.goto 5, 3) := by decide +kernel
theorem dX12_startOf_19 : decode cX12_startOf 19 = .ok (.bipush 106, 2) := by decide +kernel
theorem dX12_startOf_21 : decode cX12_startOf 21 = .ok (.ireturn, 1) := by decide +kernel
set_option maxRecDepth 20000 in
theorem ggX12_remove_X12_in : GoodIn wsX12_remove wsX12_in := goodIn_r _ [5] (by decide +kernel) (by decide +kernel)
set_option maxRecDepth 20000 in
theorem gX12_remove_X12_in : GoodIn wsX12_remove (va_wsS RX12 116 yX12_in wsX12_in) := goodIn_app (goodIn_of _ (by decide +kernel)) ggX12_remove_X12_in
set_option maxRecDepth 20000 in
theorem ggX12_remove_X12_fails : GoodIn wsX12_remove wsX12_fails := goodIn_r _ [9, 10, 32, 33, 34, 35, 36, 37, 38, 39, 40, 41, 42, 43, 44, 45, 46, 47, 48, 49, 50, 51, 52, 53, 54] (by decide +kernel) (by decide +kernel)
set_option maxRecDepth 20000 in
theorem gX12_remove_X12_fails : GoodIn wsX12_remove (wsV RX12 141 RX12 yX12_fails wsX12_fails) := goodIn_app (goodIn_of _ (by decide +kernel)) ggX12_remove_X12_fails
set_option maxRecDepth 20000 in
theorem ggX12_remove_X12_hold : GoodIn wsX12_remove wsX12_hold := goodIn_r _ [14, 15, 1, 32, 33, 34, 35, 36, 37, 38, 39, 40, 41, 42, 43, 44, 45, 46, 47, 48, 49, 50, 51, 52, 53, 54] (by decide +kernel) (by decide +kernel)
set_option maxRecDepth 20000 in
theorem gX12_remove_X12_hold : GoodIn wsX12_remove (wsV RX12 147 RX12 yX12_hold wsX12_hold) := goodIn_app (goodIn_of _ (by decide +kernel)) ggX12_remove_X12_hold
set_option maxRecDepth 20000 in
theorem ggX12_remove_X12_wide : GoodIn wsX12_remove wsX12_wide := goodIn_r _ [18] (by decide +kernel) (by decide +kernel)
set_option maxRecDepth 20000 in
theorem gX12_remove_X12_wide : GoodIn wsX12_remove (va_wsS RX12 169 yX12_wide wsX12_wide) := goodIn_app (goodIn_of _ (by decide +kernel)) ggX12_remove_X12_wide
set_option maxRecDepth 20000 in
theorem ggX12_remove_X12_startOf : GoodIn wsX12_remove wsX12_startOf := goodIn_r _ [21] (by decide +kernel) (by decide +kernel)
set_option maxRecDepth 20000 in
theorem gX12_remove_X12_startOf : GoodIn wsX12_remove (va_wsS RX12 172 yX12_startOf wsX12_startOf) := goodIn_app (goodIn_of _ (by decide +kernel)) ggX12_remove_X12_startOf
set_option maxRecDepth 20000 in
theorem ggX12_remove_X12_ends : GoodIn wsX12_remove wsX12_ends := goodIn_r _ [25, 26, 27, 15, 28, 29, 30, 4, 31, 10, 32, 33, 34, 35, 36, 37, 38, 39, 40, 41, 42, 43, 44, 45, 46, 47, 48, 49, 50, 51, 52, 53, 54] (by decide +kernel) (by decide +kernel)
set_option maxRecDepth 20000 in
theorem gX12_remove_X12_ends : GoodIn wsX12_remove (wsV RX12 144 RX12 yX12_ends wsX12_ends) := goodIn_app (goodIn_of _ (by decide +kernel)) ggX12_remove_X12_ends
theorem dX12_remove_0 : decode cX12_remove 0 = .ok (.iload_n 1, 1) := by decide +kernel
theorem dX12_remove_1 : decode cX12_remove 1 = .ok (.iconst 0, 1) := by decide +kernel
theorem dX12_remove_2 : decode cX12_remove 2 = .ok (.iconst 2, 1) := by decide +kernel
theorem dX12_remove_3 : decode cX12_remove 3 = .ok (.invokestatic 116, 3) := by decide +kernel
theorem dX12_remove_6 : decode cX12_remove 6 = .ok (.ifCond .ne 9, 3) := by decide +kernel
theorem dX12_remove_9 : decode cX12_remove 9 = .ok (.aload_n 0, 1) := by decide +kernel
theorem dX12_remove_10 : decode cX12_remove 10 = .ok (.iconst 1, 1) := by decide +kernel
theorem dX12_remove_11 : decode cX12_remove 11 = .ok (.invokevirtual 141, 3) := by decide +kernel
theorem dX12_remove_14 : decode cX12_remove 14 = .ok (.ireturn, 1) := by decide +kernel
theorem dX12_remove_15 : decode cX12_remove 15 = .ok (.iload_n 2, 1) := by decide +kernel
theorem dX12_remove_16 : decode cX12_remove 16 = .ok (.ifCond .lt 15, 3) := by decide +kernel
theorem dX12_remove_19 : decode cX12_remove 19 = .ok (.iload_n 2, 1) := by decide +kernel
theorem dX12_remove_20 : decode cX12_remove 20 = .ok (.aload_n 0, 1) := by decide +kernel
theorem dX12_remove_21 : decode cX12_remove 21 = .ok (.getfield 7, 3) := by decide +kernel
theorem dX12_remove_24 : decode cX12_remove 24 = .ok (.iconst 2, 1) := by decide +kernel
theorem dX12_remove_25 : decode cX12_remove 25 = .ok (.iload_n 1, 1) := by decide +kernel
theorem dX12_remove_26 : decode cX12_remove 26 = .ok (.iadd, 1) := by decide +kernel
theorem dX12_remove_27 : decode cX12_remove 27 = .ok (.iaload, 1) := by decide +kernel
theorem dX12_remove_28 : decode cX12_remove 28 = .ok (.if_icmp .lt 9, 3) := by decide +kernel
theorem dX12_remove_31 : decode cX12_remove 31 = .ok (.aload_n 0, 1) := by decide +kernel
theorem dX12_remove_32 : decode cX12_remove 32 = .ok (.iconst 2, 1) := by decide +kernel
theorem dX12_remove_33 : decode cX12_remove 33 = .ok (.invokevirtual 141, 3) := by decide +kernel
theorem dX12_remove_36 : decode cX12_remove 36 = .ok (.ireturn, 1) := by decide +kernel
theorem dX12_remove_37 : decode cX12_remove 37 = .ok (.aload_n 0, 1) := by decide +kernel
theorem dX12_remove_38 : decode cX12_remove 38 = .ok (.invokevirtual 147, 3) := by decide +kernel
theorem dX12_remove_41 : decode cX12_remove 41 = .ok (.aload_n 0, 1) := by decide +kernel
theorem dX12_remove_42 : decode cX12_remove 42 = .ok (.getfield 7, 3) := by decide +kernel
theorem dX12_remove_45 : decode cX12_remove 45 = .ok (.iconst 2, 1) := by decide +kernel
theorem dX12_remove_46 : decode cX12_remove 46 = .ok (.iload_n 1, 1) := by decide +kernel
theorem dX12_remove_47 : decode cX12_remove 47 = .ok (.iadd, 1) := by decide +kernel
theorem dX12_remove_48 : decode cX12_remove 48 = .ok (.dup2, 1) := by decide +kernel
theorem dX12_remove_49 : decode cX12_remove 49 = .ok (.iaload, 1) := by decide +kernel
theorem dX12_remove_50 : decode cX12_remove 50 = .ok (.iconst 1, 1) := by decide +kernel
theorem dX12_remove_51 : decode cX12_remove 51 = .ok (.isub, 1) := by decide +kernel
theorem dX12_remove_52 : decode cX12_remove 52 = .ok (.iastore, 1) := by decide +kernel
theorem dX12_remove_53 : decode cX12_remove 53 = .ok (.iload_n 1, 1) := by decide +kernel
theorem dX12_remove_54 : decode cX12_remove 54 = .ok (.invokestatic 169, 3) := by decide +kernel
theorem dX12_remove_57 : decode cX12_remove 57 = .ok (.istore_n 3, 1) := by decide +kernel
theorem dX12_remove_58 : decode cX12_remove 58 = .ok (.iload_n 1, 1) := by decide +kernel
theorem dX12_remove_59 : decode cX12_remove 59 = .ok (.invokestatic 172, 3) := by decide +kernel
theorem dX12_remove_62 : decode cX12_remove 62 = .ok (.iload_n 3, 1) := by decide +kernel
theorem dX12_remove_63 : decode cX12_remove 63 = .ok (.aload_n 0, 1) := by decide +kernel
theorem dX12_remove_64 : decode cX12_remove 64 = .ok (.getfield 7, 3) := by decide +kernel
theorem dX12_remove_67 : decode cX12_remove 67 = .ok (.iconst 2, 1) := by decide +kernel
theorem dX12_remove_68 : decode cX12_remove 68 = .ok (.iload_n 1, 1) := by decide +kernel
theorem dX12_remove_69 : decode cX12_remove 69 = .ok (.iadd, 1) := by decide +kernel
theorem dX12_remove_70 : decode cX12_remove 70 = .ok (.iaload, 1) := by decide +kernel
theorem dX12_remove_71 : decode cX12_remove 71 = .ok (.imul, 1) := by decide +kernel
theorem dX12_remove_72 : decode cX12_remove 72 = .ok (.iadd, 1) := by decide +kernel
theorem dX12_remove_73 : decode cX12_remove 73 = .ok (.istore 4, 2) := by decide +kernel
theorem dX12_remove_75 : decode cX12_remove 75 = .ok (.iload_n 1, 1) := by decide +kernel
theorem dX12_remove_76 : decode cX12_remove 76 = .ok (.invokestatic 172, 3) := by decide +kernel
theorem dX12_remove_79 : decode cX12_remove 79 = .ok (.iload_n 3, 1) := by decide +kernel
theorem dX12_remove_80 : decode cX12_remove 80 = .ok (.iload_n 2, 1) := by decide +kernel
theorem dX12_remove_81 : decode cX12_remove 81 = .ok (.imul, 1) := by decide +kernel
theorem dX12_remove_82 : decode cX12_remove 82 = .ok (.iadd, 1) := by decide +kernel
theorem dX12_remove_83 : decode cX12_remove 83 = .ok (.istore 5, 2) := by decide +kernel
theorem dX12_remove_85 : decode cX12_remove 85 = .ok (.iload 5, 2) := by decide +kernel
theorem dX12_remove_87 : decode cX12_remove 87 = .ok (.iload 4, 2) := by decide +kernel
theorem dX12_remove_89 : decode cX12_remove 89 = .ok (.if_icmp .ge 25, 3) := by decide +kernel
theorem dX12_remove_92 : decode cX12_remove 92 = .ok (.aload_n 0, 1) := by decide +kernel
theorem dX12_remove_93 : decode cX12_remove 93 = .ok (.getfield 7, 3) := by decide +kernel
theorem dX12_remove_96 : decode cX12_remove 96 = .ok (.iload 5, 2) := by decide +kernel
theorem dX12_remove_98 : decode cX12_remove 98 = .ok (.aload_n 0, 1) := by decide +kernel
theorem dX12_remove_99 : decode cX12_remove 99 = .ok (.getfield 7, 3) := by decide +kernel
theorem dX12_remove_102 : decode cX12_remove 102 = .ok (.iload 5, 2) := by decide +kernel
theorem dX12_remove_104 : decode cX12_remove 104 = .ok (.iload_n 3, 1) := by decide +kernel
theorem dX12_remove_105 : decode cX12_remove 105 = .ok (.iadd, 1) := by decide +kernel
theorem dX12_remove_106 : decode cX12_remove 106 = .ok (.iaload, 1) := by decide +kernel
theorem dX12_remove_107 : decode cX12_remove 107 = .ok (.iastore, 1) := by decide +kernel
theorem dX12_remove_108 : decode cX12_remove 108 = .ok (.iinc 5 1, 3) := by decide +kernel
theorem dX12_remove_111 : decode cX12_remove 111 = .ok (.goto (-26), 3) := by decide +kernel
theorem dX12_remove_114 : decode cX12_remove 114 = .ok (.aload_n 0, 1) := by decide +kernel
theorem dX12_remove_115 : decode cX12_remove 115 = .ok (.aload_n 0, 1) := by decide +kernel
theorem dX12_remove_116 : decode cX12_remove 116 = .ok (.getfield 7, 3) := by decide +kernel
theorem dX12_remove_119 : decode cX12_remove 119 = .ok (.iconst 2, 1) := by decide +kernel
theorem dX12_remove_120 : decode cX12_remove 120 = .ok (.iload_n 1, 1) := by decide +kernel
theorem dX12_remove_121 : decode cX12_remove 121 = .ok (.iadd, 1) := by decide +kernel
theorem dX12_remove_122 : decode cX12_remove 122 = .ok (.iaload, 1) := by decide +kernel
theorem dX12_remove_123 : decode cX12_remove 123 = .ok (.invokevirtual 144, 3) := by decide +kernel
theorem dX12_remove_126 : decode cX12_remove 126 = .ok (.ireturn, 1) := by decide +kernel
set_option maxRecDepth 20000 in
theorem ggX12_set_X12_hold : GoodIn wsX12_set wsX12_hold := goodIn_r _ [5, 6, 7, 38, 39, 40, 41, 42, 43, 44, 45, 46, 47, 48, 49, 50, 51, 52, 53, 54, 55, 56, 57, 58, 59, 60] (by decide +kernel) (by decide +kernel)
set_option maxRecDepth 20000 in
theorem gX12_set_X12_hold : GoodIn wsX12_set (wsV RX12 147 RX12 yX12_hold wsX12_hold) := goodIn_app (goodIn_of _ (by decide +kernel)) ggX12_set_X12_hold
set_option maxRecDepth 20000 in
theorem ggX12_set_X12_sets : GoodIn wsX12_set wsX12_sets := goodIn_r _ [11, 7, 12, 13, 14, 4, 15, 16, 17, 18, 38, 39, 40, 41, 42, 43, 44, 45, 46, 47, 48, 49, 50, 51, 52, 53, 54, 55, 56, 57, 58, 59, 60] (by decide +kernel) (by decide +kernel)
set_option maxRecDepth 20000 in
theorem gX12_set_X12_sets : GoodIn wsX12_set (wsV RX12 175 RX12 yX12_sets wsX12_sets) := goodIn_app (goodIn_of _ (by decide +kernel)) ggX12_set_X12_sets
set_option maxRecDepth 20000 in
theorem ggX12_set_X12_done : GoodIn wsX12_set wsX12_done := goodIn_r _ [22, 12, 23, 24, 25, 4, 26, 27, 28, 29, 30, 31, 32, 33, 6, 34, 35, 36, 37, 38, 39, 40, 41, 42, 43, 44, 45, 46, 47, 48, 49, 50, 51, 52, 53, 54, 55, 56, 57, 58, 59, 60] (by decide +kernel) (by decide +kernel)
set_option maxRecDepth 20000 in
theorem gX12_set_X12_done : GoodIn wsX12_set (wsV RX12 153 RX12 yX12_done wsX12_done) := goodIn_app (goodIn_of _ (by decide +kernel)) ggX12_set_X12_done
theorem dX12_set_0 : decode cX12_set 0 = .ok (.aload_n 0, 1) := by decide +kernel
theorem dX12_set_1 : decode cX12_set 1 = .ok (.invokevirtual 147, 3) := by decide +kernel
theorem dX12_set_4 : decode cX12_set 4 = .ok (.aload_n 0, 1) := by decide +kernel
theorem dX12_set_5 : decode cX12_set 5 = .ok (.aload_n 0, 1) := by decide +kernel
theorem dX12_set_6 : decode cX12_set 6 = .ok (.iload_n 1, 1) := by decide +kernel
theorem dX12_set_7 : decode cX12_set 7 = .ok (.iload_n 2, 1) := by decide +kernel
theorem dX12_set_8 : decode cX12_set 8 = .ok (.invokevirtual 175, 3) := by decide +kernel
theorem dX12_set_11 : decode cX12_set 11 = .ok (.invokevirtual 153, 3) := by decide +kernel
theorem dX12_set_14 : decode cX12_set 14 = .ok (.ireturn, 1) := by decide +kernel
set_option maxRecDepth 20000 in
theorem ggX12_setS_X12_fails : GoodIn wsX12_setS wsX12_fails := goodIn_r _ [6, 7, 23, 24, 25, 26, 27, 28, 29, 30, 31, 32, 33, 34, 35, 36, 37, 38, 39, 40, 41, 42, 43, 44, 45] (by decide +kernel) (by decide +kernel)
set_option maxRecDepth 20000 in
theorem gX12_setS_X12_fails : GoodIn wsX12_setS (wsV RX12 141 RX12 yX12_fails wsX12_fails) := goodIn_app (goodIn_of _ (by decide +kernel)) ggX12_setS_X12_fails
set_option maxRecDepth 20000 in
theorem ggX12_setS_X12_hold : GoodIn wsX12_setS wsX12_hold := goodIn_r _ [11, 12, 1, 23, 24, 25, 26, 27, 28, 29, 30, 31, 32, 33, 34, 35, 36, 37, 38, 39, 40, 41, 42, 43, 44, 45] (by decide +kernel) (by decide +kernel)
set_option maxRecDepth 20000 in
theorem gX12_setS_X12_hold : GoodIn wsX12_setS (wsV RX12 147 RX12 yX12_hold wsX12_hold) := goodIn_app (goodIn_of _ (by decide +kernel)) ggX12_setS_X12_hold
set_option maxRecDepth 20000 in
theorem ggX12_setS_X12_ends : GoodIn wsX12_setS wsX12_ends := goodIn_r _ [16, 17, 18, 12, 19, 20, 21, 5, 22, 7, 23, 24, 25, 26, 27, 28, 29, 30, 31, 32, 33, 34, 35, 36, 37, 38, 39, 40, 41, 42, 43, 44, 45] (by decide +kernel) (by decide +kernel)
set_option maxRecDepth 20000 in
theorem gX12_setS_X12_ends : GoodIn wsX12_setS (wsV RX12 144 RX12 yX12_ends wsX12_ends) := goodIn_app (goodIn_of _ (by decide +kernel)) ggX12_setS_X12_ends
theorem dX12_setS_0 : decode cX12_setS 0 = .ok (.iload_n 1, 1) := by decide +kernel
theorem dX12_setS_1 : decode cX12_setS 1 = .ok (.ifCond .ge 9, 3) := by decide +kernel
theorem dX12_setS_4 : decode cX12_setS 4 = .ok (.aload_n 0, 1) := by decide +kernel
theorem dX12_setS_5 : decode cX12_setS 5 = .ok (.iconst 1, 1) := by decide +kernel
theorem dX12_setS_6 : decode cX12_setS 6 = .ok (.invokevirtual 141, 3) := by decide +kernel
theorem dX12_setS_9 : decode cX12_setS 9 = .ok (.ireturn, 1) := by decide +kernel
theorem dX12_setS_10 : decode cX12_setS 10 = .ok (.aload_n 0, 1) := by decide +kernel
theorem dX12_setS_11 : decode cX12_setS 11 = .ok (.invokevirtual 147, 3) := by decide +kernel
theorem dX12_setS_14 : decode cX12_setS 14 = .ok (.aload_n 0, 1) := by decide +kernel
theorem dX12_setS_15 : decode cX12_setS 15 = .ok (.getfield 7, 3) := by decide +kernel
theorem dX12_setS_18 : decode cX12_setS 18 = .ok (.bipush 6, 2) := by decide +kernel
theorem dX12_setS_20 : decode cX12_setS 20 = .ok (.iaload, 1) := by decide +kernel
theorem dX12_setS_21 : decode cX12_setS 21 = .ok (.istore_n 2, 1) := by decide +kernel
theorem dX12_setS_22 : decode cX12_setS 22 = .ok (.aload_n 0, 1) := by decide +kernel
theorem dX12_setS_23 : decode cX12_setS 23 = .ok (.getfield 7, 3) := by decide +kernel
theorem dX12_setS_26 : decode cX12_setS 26 = .ok (.bipush 6, 2) := by decide +kernel
theorem dX12_setS_28 : decode cX12_setS 28 = .ok (.iload_n 1, 1) := by decide +kernel
theorem dX12_setS_29 : decode cX12_setS 29 = .ok (.iastore, 1) := by decide +kernel
theorem dX12_setS_30 : decode cX12_setS 30 = .ok (.aload_n 0, 1) := by decide +kernel
theorem dX12_setS_31 : decode cX12_setS 31 = .ok (.iload_n 2, 1) := by decide +kernel
theorem dX12_setS_32 : decode cX12_setS 32 = .ok (.invokevirtual 144, 3) := by decide +kernel
theorem dX12_setS_35 : decode cX12_setS 35 = .ok (.ireturn, 1) := by decide +kernel
set_option maxRecDepth 20000 in
theorem ggX12_click_X12_hold : GoodIn wsX12_click wsX12_hold := goodIn_r _ [5, 6, 7, 111, 112, 113, 114, 115, 116, 117, 118, 119, 120, 121, 122, 123, 124, 125, 126, 127, 128, 129, 130, 131, 132, 133] (by decide +kernel) (by decide +kernel)
set_option maxRecDepth 20000 in
theorem gX12_click_X12_hold : GoodIn wsX12_click (wsV RX12 147 RX12 yX12_hold wsX12_hold) := goodIn_app (goodIn_of _ (by decide +kernel)) ggX12_click_X12_hold
set_option maxRecDepth 20000 in
theorem ggX12_click_X12_clicks : GoodIn wsX12_click wsX12_clicks := goodIn_r _ [11, 7, 12, 13, 14, 15, 4, 16, 17, 18, 19, 20, 21, 22, 23, 24, 25, 26, 27, 28, 29, 30, 31, 32, 33, 34, 35, 36, 37, 38, 39, 40, 41, 42, 43, 44, 45, 46, 47, 48, 49, 50, 51, 52, 53, 54, 55, 56, 57, 58, 59, 60, 61, 62, 63, 64, 65, 66, 67, 68, 69, 70, 71, 72, 73, 74, 75, 76, 77, 78, 79, 80, 81, 82, 83, 84, 85, 86, 87, 88, 89, 90, 91, 111, 112, 113, 114, 115, 116, 117, 118, 119, 120, 121, 122, 123, 124, 125, 126, 127, 128, 129, 130, 131, 132, 133] (by decide +kernel) (by decide +kernel)
set_option maxRecDepth 20000 in
theorem gX12_click_X12_clicks : GoodIn wsX12_click (wsV RX12 178 RX12 yX12_clicks wsX12_clicks) := goodIn_app (goodIn_of _ (by decide +kernel)) ggX12_click_X12_clicks
set_option maxRecDepth 20000 in
theorem ggX12_click_X12_done : GoodIn wsX12_click wsX12_done := goodIn_r _ [95, 12, 96, 97, 98, 4, 99, 100, 101, 102, 103, 104, 105, 106, 6, 107, 108, 109, 110, 111, 112, 113, 114, 115, 116, 117, 118, 119, 120, 121, 122, 123, 124, 125, 126, 127, 128, 129, 130, 131, 132, 133] (by decide +kernel) (by decide +kernel)
set_option maxRecDepth 20000 in
theorem gX12_click_X12_done : GoodIn wsX12_click (wsV RX12 153 RX12 yX12_done wsX12_done) := goodIn_app (goodIn_of _ (by decide +kernel)) ggX12_click_X12_done
theorem dX12_click_0 : decode cX12_click 0 = .ok (.aload_n 0, 1) := by decide +kernel
theorem dX12_click_1 : decode cX12_click 1 = .ok (.invokevirtual 147, 3) := by decide +kernel
theorem dX12_click_4 : decode cX12_click 4 = .ok (.aload_n 0, 1) := by decide +kernel
theorem dX12_click_5 : decode cX12_click 5 = .ok (.aload_n 0, 1) := by decide +kernel
theorem dX12_click_6 : decode cX12_click 6 = .ok (.iload_n 1, 1) := by decide +kernel
theorem dX12_click_7 : decode cX12_click 7 = .ok (.iload_n 2, 1) := by decide +kernel
theorem dX12_click_8 : decode cX12_click 8 = .ok (.iload_n 3, 1) := by decide +kernel
theorem dX12_click_9 : decode cX12_click 9 = .ok (.invokevirtual 178, 3) := by decide +kernel
theorem dX12_click_12 : decode cX12_click 12 = .ok (.invokevirtual 153, 3) := by decide +kernel
theorem dX12_click_15 : decode cX12_click 15 = .ok (.ireturn, 1) := by decide +kernel
set_option maxRecDepth 20000 in
theorem ggX12_calibrate_X12_hold : GoodIn wsX12_calibrate wsX12_hold := goodIn_r _ [5, 6, 7, 107, 108, 109, 110, 111, 112, 113, 114, 115, 116, 117, 118, 119, 120, 121, 122, 123, 124, 125, 126, 127, 128, 129] (by decide +kernel) (by decide +kernel)
set_option maxRecDepth 20000 in
theorem gX12_calibrate_X12_hold : GoodIn wsX12_calibrate (wsV RX12 147 RX12 yX12_hold wsX12_hold) := goodIn_app (goodIn_of _ (by decide +kernel)) ggX12_calibrate_X12_hold
set_option maxRecDepth 20000 in
theorem ggX12_calibrate_X12_calibrates : GoodIn wsX12_calibrate wsX12_calibrates := goodIn_r _ [11, 7, 12, 13, 14, 15, 4, 16, 17, 18, 19, 20, 21, 22, 23, 24, 25, 26, 27, 28, 29, 30, 31, 32, 33, 34, 35, 36, 37, 38, 39, 40, 41, 42, 43, 44, 45, 46, 47, 48, 49, 50, 51, 52, 53, 54, 55, 56, 57, 58, 59, 60, 61, 62, 63, 64, 65, 66, 67, 68, 69, 70, 71, 72, 73, 74, 75, 76, 77, 78, 79, 80, 81, 82, 83, 84, 85, 86, 87, 107, 108, 109, 110, 111, 112, 113, 114, 115, 116, 117, 118, 119, 120, 121, 122, 123, 124, 125, 126, 127, 128, 129] (by decide +kernel) (by decide +kernel)
set_option maxRecDepth 20000 in
theorem gX12_calibrate_X12_calibrates : GoodIn wsX12_calibrate (wsV RX12 181 RX12 yX12_calibrates wsX12_calibrates) := goodIn_app (goodIn_of _ (by decide +kernel)) ggX12_calibrate_X12_calibrates
set_option maxRecDepth 20000 in
theorem ggX12_calibrate_X12_done : GoodIn wsX12_calibrate wsX12_done := goodIn_r _ [91, 12, 92, 93, 94, 4, 95, 96, 97, 98, 99, 100, 101, 102, 6, 103, 104, 105, 106, 107, 108, 109, 110, 111, 112, 113, 114, 115, 116, 117, 118, 119, 120, 121, 122, 123, 124, 125, 126, 127, 128, 129] (by decide +kernel) (by decide +kernel)
set_option maxRecDepth 20000 in
theorem gX12_calibrate_X12_done : GoodIn wsX12_calibrate (wsV RX12 153 RX12 yX12_done wsX12_done) := goodIn_app (goodIn_of _ (by decide +kernel)) ggX12_calibrate_X12_done
theorem dX12_calibrate_0 : decode cX12_calibrate 0 = .ok (.aload_n 0, 1) := by decide +kernel
theorem dX12_calibrate_1 : decode cX12_calibrate 1 = .ok (.invokevirtual 147, 3) := by decide +kernel
theorem dX12_calibrate_4 : decode cX12_calibrate 4 = .ok (.aload_n 0, 1) := by decide +kernel
theorem dX12_calibrate_5 : decode cX12_calibrate 5 = .ok (.aload_n 0, 1) := by decide +kernel
theorem dX12_calibrate_6 : decode cX12_calibrate 6 = .ok (.iload_n 1, 1) := by decide +kernel
theorem dX12_calibrate_7 : decode cX12_calibrate 7 = .ok (.iload_n 2, 1) := by decide +kernel
theorem dX12_calibrate_8 : decode cX12_calibrate 8 = .ok (.iload_n 3, 1) := by decide +kernel
theorem dX12_calibrate_9 : decode cX12_calibrate 9 = .ok (.invokevirtual 181, 3) := by decide +kernel
theorem dX12_calibrate_12 : decode cX12_calibrate 12 = .ok (.invokevirtual 153, 3) := by decide +kernel
theorem dX12_calibrate_15 : decode cX12_calibrate 15 = .ok (.ireturn, 1) := by decide +kernel
set_option maxRecDepth 20000 in
theorem ggX12_noteOf_X12_of : GoodIn wsX12_noteOf wsX12_of := goodIn_r _ [6, 7, 8, 9, 10, 11, 12, 13, 14, 15, 16, 17, 18, 19, 20, 21, 22, 23, 24, 25, 26, 27, 28, 29, 30] (by decide +kernel) (by decide +kernel)
set_option maxRecDepth 20000 in
theorem gX12_noteOf_X12_of : GoodIn wsX12_noteOf (wsV RX12 60 RX12 yX12_of wsX12_of) := goodIn_app (goodIn_of _ (by decide +kernel)) ggX12_noteOf_X12_of
theorem dX12_noteOf_0 : decode cX12_noteOf 0 = .ok (.aload_n 0, 1) := by decide +kernel
theorem dX12_noteOf_1 : decode cX12_noteOf 1 = .ok (.iload_n 1, 1) := by decide +kernel
theorem dX12_noteOf_2 : decode cX12_noteOf 2 = .ok (.iconst 4, 1) := by decide +kernel
theorem dX12_noteOf_3 : decode cX12_noteOf 3 = .ok (.invokevirtual 60, 3) := by decide +kernel
theorem dX12_noteOf_6 : decode cX12_noteOf 6 = .ok (.iconst 1, 1) := by decide +kernel
theorem dX12_noteOf_7 : decode cX12_noteOf 7 = .ok (.if_icmp .ne 12, 3) := by decide +kernel
theorem dX12_noteOf_10 : decode cX12_noteOf 10 = .ok (.aload_n 0, 1) := by decide +kernel
theorem dX12_noteOf_11 : decode cX12_noteOf 11 = .ok (.iload_n 1, 1) := by decide +kernel
theorem dX12_noteOf_12 : decode cX12_noteOf 12 = .ok (.iconst 5, 1) := by decide +kernel
theorem dX12_noteOf_13 : decode cX12_noteOf 13 = .ok (.invokevirtual 60, 3) := by decide +kernel
theorem dX12_noteOf_16 : decode cX12_noteOf 16 = .ok (.goto 5, 3) := by decide +kernel
theorem dX12_noteOf_19 : decode cX12_noteOf 19 = .ok (.ldc 71, 2) := by decide +kernel
theorem dX12_noteOf_21 : decode cX12_noteOf 21 = .ok (.ireturn, 1) := by decide +kernel
set_option maxRecDepth 20000 in
theorem ggX12_note_X12_isMicrophone : GoodIn wsX12_note wsX12_isMicrophone := goodIn_r _ [5, 6, 25, 26, 27, 28, 29, 30, 31, 32, 33, 34, 35, 36, 37, 38, 39, 40, 41, 42, 43, 44, 45, 46, 47] (by decide +kernel) (by decide +kernel)
set_option maxRecDepth 20000 in
theorem gX12_note_X12_isMicrophone : GoodIn wsX12_note (wsV RX12 159 RX12 yX12_isMicrophone wsX12_isMicrophone) := goodIn_app (goodIn_of _ (by decide +kernel)) ggX12_note_X12_isMicrophone
set_option maxRecDepth 20000 in
theorem ggX12_note_X12_noteOf : GoodIn wsX12_note wsX12_noteOf := goodIn_r _ [10, 11, 12, 13, 14, 4, 15, 6, 25, 26, 27, 28, 29, 30, 31, 32, 33, 34, 35, 36, 37, 38, 39, 40, 41, 42, 43, 44, 45, 46, 47] (by decide +kernel) (by decide +kernel)
set_option maxRecDepth 20000 in
theorem gX12_note_X12_noteOf : GoodIn wsX12_note (wsV RX12 184 RX12 yX12_noteOf wsX12_noteOf) := goodIn_app (goodIn_of _ (by decide +kernel)) ggX12_note_X12_noteOf
set_option maxRecDepth 20000 in
theorem ggX12_note_X12_tells : GoodIn wsX12_note wsX12_tells := goodIn_r _ [19, 20, 25, 26, 27, 28, 29, 30, 31, 32, 33, 34, 35, 36, 37, 38, 39, 40, 41, 42, 43, 44, 45, 46, 47] (by decide +kernel) (by decide +kernel)
set_option maxRecDepth 20000 in
theorem gX12_note_X12_tells : GoodIn wsX12_note (wsV RX12 56 RX12 yX12_tells wsX12_tells) := goodIn_app (goodIn_of _ (by decide +kernel)) ggX12_note_X12_tells
set_option maxRecDepth 20000 in
theorem ggX12_note_X12_fails : GoodIn wsX12_note wsX12_fails := goodIn_r _ [24, 20, 25, 26, 27, 28, 29, 30, 31, 32, 33, 34, 35, 36, 37, 38, 39, 40, 41, 42, 43, 44, 45, 46, 47] (by decide +kernel) (by decide +kernel)
set_option maxRecDepth 20000 in
theorem gX12_note_X12_fails : GoodIn wsX12_note (wsV RX12 141 RX12 yX12_fails wsX12_fails) := goodIn_app (goodIn_of _ (by decide +kernel)) ggX12_note_X12_fails
theorem dX12_note_0 : decode cX12_note 0 = .ok (.aload_n 0, 1) := by decide +kernel
theorem dX12_note_1 : decode cX12_note 1 = .ok (.iload_n 1, 1) := by decide +kernel
theorem dX12_note_2 : decode cX12_note 2 = .ok (.invokevirtual 159, 3) := by decide +kernel
theorem dX12_note_5 : decode cX12_note 5 = .ok (.ifCond .eq 15, 3) := by decide +kernel
theorem dX12_note_8 : decode cX12_note 8 = .ok (.aload_n 0, 1) := by decide +kernel
theorem dX12_note_9 : decode cX12_note 9 = .ok (.aload_n 0, 1) := by decide +kernel
theorem dX12_note_10 : decode cX12_note 10 = .ok (.iload_n 1, 1) := by decide +kernel
theorem dX12_note_11 : decode cX12_note 11 = .ok (.invokevirtual 184, 3) := by decide +kernel
theorem dX12_note_14 : decode cX12_note 14 = .ok (.invokevirtual 56, 3) := by decide +kernel
theorem dX12_note_17 : decode cX12_note 17 = .ok (.goto 8, 3) := by decide +kernel
theorem dX12_note_20 : decode cX12_note 20 = .ok (.aload_n 0, 1) := by decide +kernel
theorem dX12_note_21 : decode cX12_note 21 = .ok (.iconst 1, 1) := by decide +kernel
theorem dX12_note_22 : decode cX12_note 22 = .ok (.invokevirtual 141, 3) := by decide +kernel
