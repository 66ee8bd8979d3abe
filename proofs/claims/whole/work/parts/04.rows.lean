theorem dX4_set_59 : decode cX4_set 59 = .ok (.i2l, 1) := by decide +kernel
theorem dX4_set_60 : decode cX4_set 60 = .ok (.iload 4, 2) := by decide +kernel
theorem dX4_set_62 : decode cX4_set 62 = .ok (.i2l, 1) := by decide +kernel
theorem dX4_set_63 : decode cX4_set 63 = .ok (.invokestatic 72, 3) := by decide +kernel
theorem dX4_set_66 : decode cX4_set 66 = .ok (.ifCond .ne 6, 3) := by decide +kernel
theorem dX4_set_69 : decode cX4_set 69 = .ok (.bipush (-2), 2) := by decide +kernel
theorem dX4_set_71 : decode cX4_set 71 = .ok (.ireturn, 1) := by decide +kernel
theorem dX4_set_72 : decode cX4_set 72 = .ok (.iload_n 1, 1) := by decide +kernel
theorem dX4_set_73 : decode cX4_set 73 = .ok (.ifCond .ne 10, 3) := by decide +kernel
theorem dX4_set_76 : decode cX4_set 76 = .ok (.aload_n 0, 1) := by decide +kernel
theorem dX4_set_77 : decode cX4_set 77 = .ok (.getfield 63, 3) := by decide +kernel
theorem dX4_set_80 : decode cX4_set 80 = .ok (.goto 31, 3) := by decide +kernel
theorem dX4_set_83 : decode cX4_set 83 = .ok (.iload_n 1, 1) := by decide +kernel
theorem dX4_set_84 : decode cX4_set 84 = .ok (.iconst 1, 1) := by decide +kernel
theorem dX4_set_85 : decode cX4_set 85 = .ok (.if_icmp .ne 10, 3) := by decide +kernel
theorem dX4_set_88 : decode cX4_set 88 = .ok (.aload_n 0, 1) := by decide +kernel
theorem dX4_set_89 : decode cX4_set 89 = .ok (.getfield 67, 3) := by decide +kernel
theorem dX4_set_92 : decode cX4_set 92 = .ok (.goto 19, 3) := by decide +kernel
theorem dX4_set_95 : decode cX4_set 95 = .ok (.iload_n 1, 1) := by decide +kernel
theorem dX4_set_96 : decode cX4_set 96 = .ok (.iconst 2, 1) := by decide +kernel
theorem dX4_set_97 : decode cX4_set 97 = .ok (.if_icmp .ne 10, 3) := by decide +kernel
theorem dX4_set_100 : decode cX4_set 100 = .ok (.aload_n 0, 1) := by decide +kernel
theorem dX4_set_101 : decode cX4_set 101 = .ok (.getfield 76, 3) := by decide +kernel
theorem dX4_set_104 : decode cX4_set 104 = .ok (.goto 7, 3) := by decide +kernel
theorem dX4_set_107 : decode cX4_set 107 = .ok (.aload_n 0, 1) := by decide +kernel
theorem dX4_set_108 : decode cX4_set 108 = .ok (.getfield 79, 3) := by decide +kernel
theorem dX4_set_111 : decode cX4_set 111 = .ok (.istore 5, 2) := by decide +kernel
theorem dX4_set_113 : decode cX4_set 113 = .ok (.aload_n 0, 1) := by decide +kernel
theorem dX4_set_114 : decode cX4_set 114 = .ok (.iload_n 1, 1) := by decide +kernel
theorem dX4_set_115 : decode cX4_set 115 = .ok (.ifCond .ne 7, 3) := by decide +kernel
theorem dX4_set_118 : decode cX4_set 118 = .ok (.iload_n 2, 1) := by decide +kernel
theorem dX4_set_119 : decode cX4_set 119 = .ok (.goto 7, 3) := by decide +kernel
theorem dX4_set_122 : decode cX4_set 122 = .ok (.aload_n 0, 1) := by decide +kernel
theorem dX4_set_123 : decode cX4_set 123 = .ok (.getfield 63, 3) := by decide +kernel
theorem dX4_set_126 : decode cX4_set 126 = .ok (.putfield 63, 3) := by decide +kernel
theorem dX4_set_129 : decode cX4_set 129 = .ok (.aload_n 0, 1) := by decide +kernel
theorem dX4_set_130 : decode cX4_set 130 = .ok (.iload_n 1, 1) := by decide +kernel
theorem dX4_set_131 : decode cX4_set 131 = .ok (.iconst 1, 1) := by decide +kernel
theorem dX4_set_132 : decode cX4_set 132 = .ok (.if_icmp .ne 7, 3) := by decide +kernel
theorem dX4_set_135 : decode cX4_set 135 = .ok (.iload_n 2, 1) := by decide +kernel
theorem dX4_set_136 : decode cX4_set 136 = .ok (.goto 7, 3) := by decide +kernel
theorem dX4_set_139 : decode cX4_set 139 = .ok (.aload_n 0, 1) := by decide +kernel
theorem dX4_set_140 : decode cX4_set 140 = .ok (.getfield 67, 3) := by decide +kernel
theorem dX4_set_143 : decode cX4_set 143 = .ok (.putfield 67, 3) := by decide +kernel
theorem dX4_set_146 : decode cX4_set 146 = .ok (.aload_n 0, 1) := by decide +kernel
theorem dX4_set_147 : decode cX4_set 147 = .ok (.iload_n 1, 1) := by decide +kernel
theorem dX4_set_148 : decode cX4_set 148 = .ok (.iconst 2, 1) := by decide +kernel
theorem dX4_set_149 : decode cX4_set 149 = .ok (.if_icmp .ne 7, 3) := by decide +kernel
theorem dX4_set_152 : decode cX4_set 152 = .ok (.iload_n 2, 1) := by decide +kernel
theorem dX4_set_153 : decode cX4_set 153 = .ok (.goto 7, 3) := by decide +kernel
theorem dX4_set_156 : decode cX4_set 156 = .ok (.aload_n 0, 1) := by decide +kernel
theorem dX4_set_157 : decode cX4_set 157 = .ok (.getfield 76, 3) := by decide +kernel
theorem dX4_set_160 : decode cX4_set 160 = .ok (.putfield 76, 3) := by decide +kernel
theorem dX4_set_163 : decode cX4_set 163 = .ok (.aload_n 0, 1) := by decide +kernel
theorem dX4_set_164 : decode cX4_set 164 = .ok (.iload_n 1, 1) := by decide +kernel
theorem dX4_set_165 : decode cX4_set 165 = .ok (.iconst 3, 1) := by decide +kernel
theorem dX4_set_166 : decode cX4_set 166 = .ok (.if_icmp .ne 7, 3) := by decide +kernel
theorem dX4_set_169 : decode cX4_set 169 = .ok (.iload_n 2, 1) := by decide +kernel
theorem dX4_set_170 : decode cX4_set 170 = .ok (.goto 7, 3) := by decide +kernel
theorem dX4_set_173 : decode cX4_set 173 = .ok (.aload_n 0, 1) := by decide +kernel
theorem dX4_set_174 : decode cX4_set 174 = .ok (.getfield 79, 3) := by decide +kernel
theorem dX4_set_177 : decode cX4_set 177 = .ok (.putfield 79, 3) := by decide +kernel
theorem dX4_set_180 : decode cX4_set 180 = .ok (.iload 5, 2) := by decide +kernel
theorem dX4_set_182 : decode cX4_set 182 = .ok (.ireturn, 1) := by decide +kernel
set_option maxRecDepth 20000 in
theorem ggX4_say_X4_in : GoodIn wsX4_say wsX4_in := goodIn_r _ [8] (by decide +kernel) (by decide +kernel)
set_option maxRecDepth 20000 in
theorem gX4_say_X4_in : GoodIn wsX4_say (va_wsS RX4 72 yX4_in wsX4_in) := goodIn_app (goodIn_of _ (by decide +kernel)) ggX4_say_X4_in
theorem dX4_say_0 : decode cX4_say 0 = .ok (.iload_n 1, 1) := by decide +kernel
theorem dX4_say_1 : decode cX4_say 1 = .ok (.i2l, 1) := by decide +kernel
theorem dX4_say_2 : decode cX4_say 2 = .ok (.ldc2_w 82, 3) := by decide +kernel
theorem dX4_say_5 : decode cX4_say 5 = .ok (.ldc2_w 84, 3) := by decide +kernel
theorem dX4_say_8 : decode cX4_say 8 = .ok (.invokestatic 72, 3) := by decide +kernel
theorem dX4_say_11 : decode cX4_say 11 = .ok (.ifCond .ne 6, 3) := by decide +kernel
theorem dX4_say_14 : decode cX4_say 14 = .ok (.bipush (-2), 2) := by decide +kernel
theorem dX4_say_16 : decode cX4_say 16 = .ok (.ireturn, 1) := by decide +kernel
theorem dX4_say_17 : decode cX4_say 17 = .ok (.aload_n 0, 1) := by decide +kernel
theorem dX4_say_18 : decode cX4_say 18 = .ok (.getfield 86, 3) := by decide +kernel
theorem dX4_say_21 : decode cX4_say 21 = .ok (.bipush 60, 2) := by decide +kernel
theorem dX4_say_23 : decode cX4_say 23 = .ok (.if_icmp .ne 6, 3) := by decide +kernel
theorem dX4_say_26 : decode cX4_say 26 = .ok (.bipush (-4), 2) := by decide +kernel
theorem dX4_say_28 : decode cX4_say 28 = .ok (.ireturn, 1) := by decide +kernel
theorem dX4_say_29 : decode cX4_say 29 = .ok (.aload_n 0, 1) := by decide +kernel
theorem dX4_say_30 : decode cX4_say 30 = .ok (.getfield 31, 3) := by decide +kernel
theorem dX4_say_33 : decode cX4_say 33 = .ok (.aload_n 0, 1) := by decide +kernel
theorem dX4_say_34 : decode cX4_say 34 = .ok (.getfield 86, 3) := by decide +kernel
theorem dX4_say_37 : decode cX4_say 37 = .ok (.iload_n 1, 1) := by decide +kernel
theorem dX4_say_38 : decode cX4_say 38 = .ok (.iastore, 1) := by decide +kernel
theorem dX4_say_39 : decode cX4_say 39 = .ok (.aload_n 0, 1) := by decide +kernel
theorem dX4_say_40 : decode cX4_say 40 = .ok (.dup, 1) := by decide +kernel
theorem dX4_say_41 : decode cX4_say 41 = .ok (.getfield 86, 3) := by decide +kernel
theorem dX4_say_44 : decode cX4_say 44 = .ok (.iconst 1, 1) := by decide +kernel
theorem dX4_say_45 : decode cX4_say 45 = .ok (.iadd, 1) := by decide +kernel
theorem dX4_say_46 : decode cX4_say 46 = .ok (.putfield 86, 3) := by decide +kernel
theorem dX4_say_49 : decode cX4_say 49 = .ok (.aload_n 0, 1) := by decide +kernel
theorem dX4_say_50 : decode cX4_say 50 = .ok (.getfield 86, 3) := by decide +kernel
theorem dX4_say_53 : decode cX4_say 53 = .ok (.ireturn, 1) := by decide +kernel
theorem dX4_wipe_0 : decode cX4_wipe 0 = .ok (.aload_n 0, 1) := by decide +kernel
theorem dX4_wipe_1 : decode cX4_wipe 1 = .ok (.getfield 86, 3) := by decide +kernel
theorem dX4_wipe_4 : decode cX4_wipe 4 = .ok (.istore_n 1, 1) := by decide +kernel
theorem dX4_wipe_5 : decode cX4_wipe 5 = .ok (.aload_n 0, 1) := by decide +kernel
theorem dX4_wipe_6 : decode cX4_wipe 6 = .ok (.iconst 0, 1) := by decide +kernel
theorem dX4_wipe_7 : decode cX4_wipe 7 = .ok (.putfield 86, 3) := by decide +kernel
theorem dX4_wipe_10 : decode cX4_wipe 10 = .ok (.iload_n 1, 1) := by decide +kernel
theorem dX4_wipe_11 : decode cX4_wipe 11 = .ok (.ireturn, 1) := by decide +kernel
theorem dX4_readsDigit_0 : decode cX4_readsDigit 0 = .ok (.aload_n 0, 1) := by decide +kernel
theorem dX4_readsDigit_1 : decode cX4_readsDigit 1 = .ok (.getfield 89, 3) := by decide +kernel
theorem dX4_readsDigit_4 : decode cX4_readsDigit 4 = .ok (.iconst 3, 1) := by decide +kernel
theorem dX4_readsDigit_5 : decode cX4_readsDigit 5 = .ok (.if_icmp .ge 43, 3) := by decide +kernel
theorem dX4_readsDigit_8 : decode cX4_readsDigit 8 = .ok (.aload_n 0, 1) := by decide +kernel
theorem dX4_readsDigit_9 : decode cX4_readsDigit 9 = .ok (.getfield 92, 3) := by decide +kernel
theorem dX4_readsDigit_12 : decode cX4_readsDigit 12 = .ok (.iconst 3, 1) := by decide +kernel
theorem dX4_readsDigit_13 : decode cX4_readsDigit 13 = .ok (.if_icmp .ge 35, 3) := by decide +kernel
theorem dX4_readsDigit_16 : decode cX4_readsDigit 16 = .ok (.aload_n 0, 1) := by decide +kernel
theorem dX4_readsDigit_17 : decode cX4_readsDigit 17 = .ok (.getfield 95, 3) := by decide +kernel
theorem dX4_readsDigit_20 : decode cX4_readsDigit 20 = .ok (.ifCond .ne 28, 3) := by decide +kernel
theorem dX4_readsDigit_23 : decode cX4_readsDigit 23 = .ok (.iload_n 1, 1) := by decide +kernel
theorem dX4_readsDigit_24 : decode cX4_readsDigit 24 = .ok (.bipush 48, 2) := by decide +kernel
theorem dX4_readsDigit_26 : decode cX4_readsDigit 26 = .ok (.if_icmp .ne 18, 3) := by decide +kernel
theorem dX4_readsDigit_29 : decode cX4_readsDigit 29 = .ok (.aload_n 0, 1) := by decide +kernel
theorem dX4_readsDigit_30 : decode cX4_readsDigit 30 = .ok (.getfield 92, 3) := by decide +kernel
theorem dX4_readsDigit_33 : decode cX4_readsDigit 33 = .ok (.ifCond .gt 11, 3) := by decide +kernel
theorem dX4_readsDigit_36 : decode cX4_readsDigit 36 = .ok (.aload_n 0, 1) := by decide +kernel
theorem dX4_readsDigit_37 : decode cX4_readsDigit 37 = .ok (.getfield 89, 3) := by decide +kernel
theorem dX4_readsDigit_40 : decode cX4_readsDigit 40 = .ok (.iconst 2, 1) := by decide +kernel
theorem dX4_readsDigit_41 : decode cX4_readsDigit 41 = .ok (.if_icmp .ne 7, 3) := by decide +kernel
theorem dX4_readsDigit_44 : decode cX4_readsDigit 44 = .ok (.iconst 1, 1) := by decide +kernel
theorem dX4_readsDigit_45 : decode cX4_readsDigit 45 = .ok (.goto 4, 3) := by decide +kernel
theorem dX4_readsDigit_48 : decode cX4_readsDigit 48 = .ok (.iconst 0, 1) := by decide +kernel
theorem dX4_readsDigit_49 : decode cX4_readsDigit 49 = .ok (.istore_n 2, 1) := by decide +kernel
theorem dX4_readsDigit_50 : decode cX4_readsDigit 50 = .ok (.iload_n 2, 1) := by decide +kernel
theorem dX4_readsDigit_51 : decode cX4_readsDigit 51 = .ok (.ifCond .eq 35, 3) := by decide +kernel
theorem dX4_readsDigit_54 : decode cX4_readsDigit 54 = .ok (.aload_n 0, 1) := by decide +kernel
theorem dX4_readsDigit_55 : decode cX4_readsDigit 55 = .ok (.aload_n 0, 1) := by decide +kernel
theorem dX4_readsDigit_56 : decode cX4_readsDigit 56 = .ok (.getfield 92, 3) := by decide +kernel
theorem dX4_readsDigit_59 : decode cX4_readsDigit 59 = .ok (.ifCond .ne 13, 3) := by decide +kernel
theorem dX4_readsDigit_62 : decode cX4_readsDigit 62 = .ok (.iload_n 1, 1) := by decide +kernel
theorem dX4_readsDigit_63 : decode cX4_readsDigit 63 = .ok (.bipush 48, 2) := by decide +kernel
theorem dX4_readsDigit_65 : decode cX4_readsDigit 65 = .ok (.if_icmp .ne 7, 3) := by decide +kernel
theorem dX4_readsDigit_68 : decode cX4_readsDigit 68 = .ok (.iconst 1, 1) := by decide +kernel
theorem dX4_readsDigit_69 : decode cX4_readsDigit 69 = .ok (.goto 4, 3) := by decide +kernel
theorem dX4_readsDigit_72 : decode cX4_readsDigit 72 = .ok (.iconst 0, 1) := by decide +kernel
theorem dX4_readsDigit_73 : decode cX4_readsDigit 73 = .ok (.putfield 95, 3) := by decide +kernel
theorem dX4_readsDigit_76 : decode cX4_readsDigit 76 = .ok (.aload_n 0, 1) := by decide +kernel
theorem dX4_readsDigit_77 : decode cX4_readsDigit 77 = .ok (.dup, 1) := by decide +kernel
theorem dX4_readsDigit_78 : decode cX4_readsDigit 78 = .ok (.getfield 92, 3) := by decide +kernel
theorem dX4_readsDigit_81 : decode cX4_readsDigit 81 = .ok (.iconst 1, 1) := by decide +kernel
theorem dX4_readsDigit_82 : decode cX4_readsDigit 82 = .ok (.iadd, 1) := by decide +kernel
theorem dX4_readsDigit_83 : decode cX4_readsDigit 83 = .ok (.putfield 92, 3) := by decide +kernel
theorem dX4_readsDigit_86 : decode cX4_readsDigit 86 = .ok (.iload_n 2, 1) := by decide +kernel
theorem dX4_readsDigit_87 : decode cX4_readsDigit 87 = .ok (.ireturn, 1) := by decide +kernel
set_option maxRecDepth 20000 in
theorem ggX4_reads_X4_in : GoodIn wsX4_reads wsX4_in := goodIn_r _ [10] (by decide +kernel) (by decide +kernel)
set_option maxRecDepth 20000 in
theorem gX4_reads_X4_in : GoodIn wsX4_reads (va_wsS RX4 72 yX4_in wsX4_in) := goodIn_app (goodIn_of _ (by decide +kernel)) ggX4_reads_X4_in
set_option maxRecDepth 20000 in
theorem ggX4_reads_X4_readsDigit : GoodIn wsX4_reads wsX4_readsDigit := goodIn_r _ [14, 4, 3, 6, 15, 16, 17, 18, 19, 20, 21, 22, 23, 24, 25, 26, 27, 28, 29, 30, 31, 32, 33, 34, 35, 36, 37, 38, 39, 40, 41, 42, 43, 44, 45, 46, 47, 48] (by decide +kernel) (by decide +kernel)
set_option maxRecDepth 20000 in
theorem gX4_reads_X4_readsDigit : GoodIn wsX4_reads (wsV RX4 103 RX4 yX4_readsDigit wsX4_readsDigit) := goodIn_app (goodIn_of _ (by decide +kernel)) ggX4_reads_X4_readsDigit
theorem dX4_reads_0 : decode cX4_reads 0 = .ok (.iload_n 1, 1) := by decide +kernel
theorem dX4_reads_1 : decode cX4_reads 1 = .ok (.i2l, 1) := by decide +kernel
theorem dX4_reads_2 : decode cX4_reads 2 = .ok (.ldc2_w 99, 3) := by decide +kernel
theorem dX4_reads_5 : decode cX4_reads 5 = .ok (.ldc2_w 101, 3) := by decide +kernel
theorem dX4_reads_8 : decode cX4_reads 8 = .ok (.invokestatic 72, 3) := by decide +kernel
theorem dX4_reads_11 : decode cX4_reads 11 = .ok (.ifCond .eq 9, 3) := by decide +kernel
theorem dX4_reads_14 : decode cX4_reads 14 = .ok (.aload_n 0, 1) := by decide +kernel
theorem dX4_reads_15 : decode cX4_reads 15 = .ok (.iload_n 1, 1) := by decide +kernel
theorem dX4_reads_16 : decode cX4_reads 16 = .ok (.invokevirtual 103, 3) := by decide +kernel
theorem dX4_reads_19 : decode cX4_reads 19 = .ok (.ireturn, 1) := by decide +kernel
theorem dX4_reads_20 : decode cX4_reads 20 = .ok (.aload_n 0, 1) := by decide +kernel
theorem dX4_reads_21 : decode cX4_reads 21 = .ok (.getfield 92, 3) := by decide +kernel
theorem dX4_reads_24 : decode cX4_reads 24 = .ok (.ifCond .le 54, 3) := by decide +kernel
theorem dX4_reads_27 : decode cX4_reads 27 = .ok (.aload_n 0, 1) := by decide +kernel
theorem dX4_reads_28 : decode cX4_reads 28 = .ok (.getfield 89, 3) := by decide +kernel
theorem dX4_reads_31 : decode cX4_reads 31 = .ok (.ifCond .ne 9, 3) := by decide +kernel
theorem dX4_reads_34 : decode cX4_reads 34 = .ok (.iload_n 1, 1) := by decide +kernel
theorem dX4_reads_35 : decode cX4_reads 35 = .ok (.bipush 43, 2) := by decide +kernel
theorem dX4_reads_37 : decode cX4_reads 37 = .ok (.if_icmp .eq 37, 3) := by decide +kernel
theorem dX4_reads_40 : decode cX4_reads 40 = .ok (.aload_n 0, 1) := by decide +kernel
theorem dX4_reads_41 : decode cX4_reads 41 = .ok (.getfield 89, 3) := by decide +kernel
theorem dX4_reads_44 : decode cX4_reads 44 = .ok (.iconst 1, 1) := by decide +kernel
theorem dX4_reads_45 : decode cX4_reads 45 = .ok (.if_icmp .ne 9, 3) := by decide +kernel
theorem dX4_reads_48 : decode cX4_reads 48 = .ok (.iload_n 1, 1) := by decide +kernel
theorem dX4_reads_49 : decode cX4_reads 49 = .ok (.bipush 61, 2) := by decide +kernel
theorem dX4_reads_51 : decode cX4_reads 51 = .ok (.if_icmp .eq 23, 3) := by decide +kernel
theorem dX4_reads_54 : decode cX4_reads 54 = .ok (.aload_n 0, 1) := by decide +kernel
theorem dX4_reads_55 : decode cX4_reads 55 = .ok (.getfield 89, 3) := by decide +kernel
theorem dX4_reads_58 : decode cX4_reads 58 = .ok (.iconst 2, 1) := by decide +kernel
theorem dX4_reads_59 : decode cX4_reads 59 = .ok (.if_icmp .ne 19, 3) := by decide +kernel
theorem dX4_reads_62 : decode cX4_reads 62 = .ok (.iload_n 1, 1) := by decide +kernel
theorem dX4_reads_63 : decode cX4_reads 63 = .ok (.bipush 112, 2) := by decide +kernel
theorem dX4_reads_65 : decode cX4_reads 65 = .ok (.if_icmp .eq 9, 3) := by decide +kernel
theorem dX4_reads_68 : decode cX4_reads 68 = .ok (.iload_n 1, 1) := by decide +kernel
theorem dX4_reads_69 : decode cX4_reads 69 = .ok (.bipush 100, 2) := by decide +kernel
theorem dX4_reads_71 : decode cX4_reads 71 = .ok (.if_icmp .ne 7, 3) := by decide +kernel
theorem dX4_reads_74 : decode cX4_reads 74 = .ok (.iconst 1, 1) := by decide +kernel
theorem dX4_reads_75 : decode cX4_reads 75 = .ok (.goto 4, 3) := by decide +kernel
theorem dX4_reads_78 : decode cX4_reads 78 = .ok (.iconst 0, 1) := by decide +kernel
theorem dX4_reads_79 : decode cX4_reads 79 = .ok (.istore_n 2, 1) := by decide +kernel
theorem dX4_reads_80 : decode cX4_reads 80 = .ok (.aload_n 0, 1) := by decide +kernel
theorem dX4_reads_81 : decode cX4_reads 81 = .ok (.getfield 89, 3) := by decide +kernel
theorem dX4_reads_84 : decode cX4_reads 84 = .ok (.iconst 4, 1) := by decide +kernel
theorem dX4_reads_85 : decode cX4_reads 85 = .ok (.if_icmp .ne 22, 3) := by decide +kernel
theorem dX4_reads_88 : decode cX4_reads 88 = .ok (.iload_n 1, 1) := by decide +kernel
theorem dX4_reads_89 : decode cX4_reads 89 = .ok (.bipush 59, 2) := by decide +kernel
theorem dX4_reads_91 : decode cX4_reads 91 = .ok (.if_icmp .ne 16, 3) := by decide +kernel
theorem dX4_reads_94 : decode cX4_reads 94 = .ok (.aload_n 0, 1) := by decide +kernel
theorem dX4_reads_95 : decode cX4_reads 95 = .ok (.getfield 107, 3) := by decide +kernel
theorem dX4_reads_98 : decode cX4_reads 98 = .ok (.bipush 6, 2) := by decide +kernel
theorem dX4_reads_100 : decode cX4_reads 100 = .ok (.if_icmp .ge 7, 3) := by decide +kernel
theorem dX4_reads_103 : decode cX4_reads 103 = .ok (.iconst 1, 1) := by decide +kernel
theorem dX4_reads_104 : decode cX4_reads 104 = .ok (.goto 4, 3) := by decide +kernel
theorem dX4_reads_107 : decode cX4_reads 107 = .ok (.iconst 0, 1) := by decide +kernel
theorem dX4_reads_108 : decode cX4_reads 108 = .ok (.istore_n 3, 1) := by decide +kernel
theorem dX4_reads_109 : decode cX4_reads 109 = .ok (.iload_n 2, 1) := by decide +kernel
theorem dX4_reads_110 : decode cX4_reads 110 = .ok (.ifCond .ne 9, 3) := by decide +kernel
theorem dX4_reads_113 : decode cX4_reads 113 = .ok (.iload_n 3, 1) := by decide +kernel
theorem dX4_reads_114 : decode cX4_reads 114 = .ok (.ifCond .ne 5, 3) := by decide +kernel
theorem dX4_reads_117 : decode cX4_reads 117 = .ok (.iconst 0, 1) := by decide +kernel
theorem dX4_reads_118 : decode cX4_reads 118 = .ok (.ireturn, 1) := by decide +kernel
theorem dX4_reads_119 : decode cX4_reads 119 = .ok (.aload_n 0, 1) := by decide +kernel
theorem dX4_reads_120 : decode cX4_reads 120 = .ok (.iload_n 3, 1) := by decide +kernel
theorem dX4_reads_121 : decode cX4_reads 121 = .ok (.ifCond .eq 7, 3) := by decide +kernel
theorem dX4_reads_124 : decode cX4_reads 124 = .ok (.iconst 0, 1) := by decide +kernel
theorem dX4_reads_125 : decode cX4_reads 125 = .ok (.goto 21, 3) := by decide +kernel
theorem dX4_reads_128 : decode cX4_reads 128 = .ok (.aload_n 0, 1) := by decide +kernel
theorem dX4_reads_129 : decode cX4_reads 129 = .ok (.getfield 89, 3) := by decide +kernel
theorem dX4_reads_132 : decode cX4_reads 132 = .ok (.iconst 2, 1) := by decide +kernel
theorem dX4_reads_133 : decode cX4_reads 133 = .ok (.if_icmp .ne 7, 3) := by decide +kernel
theorem dX4_reads_136 : decode cX4_reads 136 = .ok (.iconst 4, 1) := by decide +kernel
theorem dX4_reads_137 : decode cX4_reads 137 = .ok (.goto 9, 3) := by decide +kernel
theorem dX4_reads_140 : decode cX4_reads 140 = .ok (.aload_n 0, 1) := by decide +kernel
theorem dX4_reads_141 : decode cX4_reads 141 = .ok (.getfield 89, 3) := by decide +kernel
theorem dX4_reads_144 : decode cX4_reads 144 = .ok (.iconst 1, 1) := by decide +kernel
theorem dX4_reads_145 : decode cX4_reads 145 = .ok (.iadd, 1) := by decide +kernel
theorem dX4_reads_146 : decode cX4_reads 146 = .ok (.putfield 89, 3) := by decide +kernel
theorem dX4_reads_149 : decode cX4_reads 149 = .ok (.aload_n 0, 1) := by decide +kernel
theorem dX4_reads_150 : decode cX4_reads 150 = .ok (.dup, 1) := by decide +kernel
theorem dX4_reads_151 : decode cX4_reads 151 = .ok (.getfield 107, 3) := by decide +kernel
theorem dX4_reads_154 : decode cX4_reads 154 = .ok (.iload_n 2, 1) := by decide +kernel
theorem dX4_reads_155 : decode cX4_reads 155 = .ok (.ifCond .eq 15, 3) := by decide +kernel
theorem dX4_reads_158 : decode cX4_reads 158 = .ok (.aload_n 0, 1) := by decide +kernel
theorem dX4_reads_159 : decode cX4_reads 159 = .ok (.getfield 89, 3) := by decide +kernel
theorem dX4_reads_162 : decode cX4_reads 162 = .ok (.iconst 4, 1) := by decide +kernel
theorem dX4_reads_163 : decode cX4_reads 163 = .ok (.if_icmp .ne 7, 3) := by decide +kernel
theorem dX4_reads_166 : decode cX4_reads 166 = .ok (.iconst 1, 1) := by decide +kernel
theorem dX4_reads_167 : decode cX4_reads 167 = .ok (.goto 4, 3) := by decide +kernel
theorem dX4_reads_170 : decode cX4_reads 170 = .ok (.iconst 0, 1) := by decide +kernel
theorem dX4_reads_171 : decode cX4_reads 171 = .ok (.iadd, 1) := by decide +kernel
theorem dX4_reads_172 : decode cX4_reads 172 = .ok (.putfield 107, 3) := by decide +kernel
theorem dX4_reads_175 : decode cX4_reads 175 = .ok (.aload_n 0, 1) := by decide +kernel
theorem dX4_reads_176 : decode cX4_reads 176 = .ok (.iconst 0, 1) := by decide +kernel
theorem dX4_reads_177 : decode cX4_reads 177 = .ok (.putfield 92, 3) := by decide +kernel
theorem dX4_reads_180 : decode cX4_reads 180 = .ok (.aload_n 0, 1) := by decide +kernel
theorem dX4_reads_181 : decode cX4_reads 181 = .ok (.iconst 0, 1) := by decide +kernel
theorem dX4_reads_182 : decode cX4_reads 182 = .ok (.putfield 95, 3) := by decide +kernel
theorem dX4_reads_185 : decode cX4_reads 185 = .ok (.iconst 1, 1) := by decide +kernel
theorem dX4_reads_186 : decode cX4_reads 186 = .ok (.ireturn, 1) := by decide +kernel
set_option maxRecDepth 20000 in
theorem ggX4_faultOfSuits_X4_reads : GoodIn wsX4_faultOfSuits wsX4_reads := goodIn_r _ [11, 12, 13, 2, 1, 4, 3, 14, 15, 10, 16, 17, 18, 19, 20, 21, 22, 23, 24, 25, 26, 27, 28, 29, 30, 31, 32, 33, 34, 35, 36, 37, 38, 39, 40, 41, 42, 43, 44, 45, 46, 47, 48, 49, 50, 51, 52, 53, 54] (by decide +kernel) (by decide +kernel)
set_option maxRecDepth 20000 in
theorem gX4_faultOfSuits_X4_reads : GoodIn wsX4_faultOfSuits (wsV RX4 110 RX4 yX4_reads wsX4_reads) := goodIn_app (goodIn_of _ (by decide +kernel)) ggX4_faultOfSuits_X4_reads
theorem dX4_faultOfSuits_0 : decode cX4_faultOfSuits 0 = .ok (.aload_n 0, 1) := by decide +kernel
theorem dX4_faultOfSuits_1 : decode cX4_faultOfSuits 1 = .ok (.iconst 0, 1) := by decide +kernel
theorem dX4_faultOfSuits_2 : decode cX4_faultOfSuits 2 = .ok (.putfield 89, 3) := by decide +kernel
theorem dX4_faultOfSuits_5 : decode cX4_faultOfSuits 5 = .ok (.aload_n 0, 1) := by decide +kernel
theorem dX4_faultOfSuits_6 : decode cX4_faultOfSuits 6 = .ok (.iconst 0, 1) := by decide +kernel
theorem dX4_faultOfSuits_7 : decode cX4_faultOfSuits 7 = .ok (.putfield 92, 3) := by decide +kernel
theorem dX4_faultOfSuits_10 : decode cX4_faultOfSuits 10 = .ok (.aload_n 0, 1) := by decide +kernel
theorem dX4_faultOfSuits_11 : decode cX4_faultOfSuits 11 = .ok (.iconst 0, 1) := by decide +kernel
theorem dX4_faultOfSuits_12 : decode cX4_faultOfSuits 12 = .ok (.putfield 95, 3) := by decide +kernel
theorem dX4_faultOfSuits_15 : decode cX4_faultOfSuits 15 = .ok (.aload_n 0, 1) := by decide +kernel
theorem dX4_faultOfSuits_16 : decode cX4_faultOfSuits 16 = .ok (.iconst 0, 1) := by decide +kernel
theorem dX4_faultOfSuits_17 : decode cX4_faultOfSuits 17 = .ok (.putfield 107, 3) := by decide +kernel
theorem dX4_faultOfSuits_20 : decode cX4_faultOfSuits 20 = .ok (.iconst 0, 1) := by decide +kernel
theorem dX4_faultOfSuits_21 : decode cX4_faultOfSuits 21 = .ok (.istore_n 1, 1) := by decide +kernel
theorem dX4_faultOfSuits_22 : decode cX4_faultOfSuits 22 = .ok (.iload_n 1, 1) := by decide +kernel
theorem dX4_faultOfSuits_23 : decode cX4_faultOfSuits 23 = .ok (.aload_n 0, 1) := by decide +kernel
theorem dX4_faultOfSuits_24 : decode cX4_faultOfSuits 24 = .ok (.getfield 86, 3) := by decide +kernel
theorem dX4_faultOfSuits_27 : decode cX4_faultOfSuits 27 = .ok (.if_icmp .ge 24, 3) := by decide +kernel
theorem dX4_faultOfSuits_30 : decode cX4_faultOfSuits 30 = .ok (.aload_n 0, 1) := by decide +kernel
theorem dX4_faultOfSuits_31 : decode cX4_faultOfSuits 31 = .ok (.aload_n 0, 1) := by decide +kernel
theorem dX4_faultOfSuits_32 : decode cX4_faultOfSuits 32 = .ok (.getfield 31, 3) := by decide +kernel
theorem dX4_faultOfSuits_35 : decode cX4_faultOfSuits 35 = .ok (.iload_n 1, 1) := by decide +kernel
theorem dX4_faultOfSuits_36 : decode cX4_faultOfSuits 36 = .ok (.iaload, 1) := by decide +kernel
theorem dX4_faultOfSuits_37 : decode cX4_faultOfSuits 37 = .ok (.invokevirtual 110, 3) := by decide +kernel
theorem dX4_faultOfSuits_40 : decode cX4_faultOfSuits 40 = .ok (.ifCond .ne 5, 3) := by decide +kernel
theorem dX4_faultOfSuits_43 : decode cX4_faultOfSuits 43 = .ok (.iload_n 1, 1) := by decide +kernel
theorem dX4_faultOfSuits_44 : decode cX4_faultOfSuits 44 = .ok (.ireturn, 1) := by decide +kernel
theorem dX4_faultOfSuits_45 : decode cX4_faultOfSuits 45 = .ok (.iinc 1 1, 3) := by decide +kernel
theorem dX4_faultOfSuits_48 : decode cX4_faultOfSuits 48 = .ok (.goto (-26), 3) := by decide +kernel
theorem dX4_faultOfSuits_51 : decode cX4_faultOfSuits 51 = .ok (.aload_n 0, 1) := by decide +kernel
theorem dX4_faultOfSuits_52 : decode cX4_faultOfSuits 52 = .ok (.getfield 86, 3) := by decide +kernel
theorem dX4_faultOfSuits_55 : decode cX4_faultOfSuits 55 = .ok (.ifCond .eq 11, 3) := by decide +kernel
theorem dX4_faultOfSuits_58 : decode cX4_faultOfSuits 58 = .ok (.aload_n 0, 1) := by decide +kernel
theorem dX4_faultOfSuits_59 : decode cX4_faultOfSuits 59 = .ok (.getfield 89, 3) := by decide +kernel
theorem dX4_faultOfSuits_62 : decode cX4_faultOfSuits 62 = .ok (.iconst 4, 1) := by decide +kernel
theorem dX4_faultOfSuits_63 : decode cX4_faultOfSuits 63 = .ok (.if_icmp .ne 8, 3) := by decide +kernel
theorem dX4_faultOfSuits_66 : decode cX4_faultOfSuits 66 = .ok (.bipush (-6), 2) := by decide +kernel
theorem dX4_faultOfSuits_68 : decode cX4_faultOfSuits 68 = .ok (.goto 7, 3) := by decide +kernel
theorem dX4_faultOfSuits_71 : decode cX4_faultOfSuits 71 = .ok (.aload_n 0, 1) := by decide +kernel
theorem dX4_faultOfSuits_72 : decode cX4_faultOfSuits 72 = .ok (.getfield 86, 3) := by decide +kernel
theorem dX4_faultOfSuits_75 : decode cX4_faultOfSuits 75 = .ok (.ireturn, 1) := by decide +kernel
set_option maxRecDepth 20000 in
theorem ggX4_faultOfOrder_X4_isSuit : GoodIn wsX4_faultOfOrder wsX4_isSuit := goodIn_r _ [8, 3, 9, 10, 7, 11, 12, 13, 14, 15, 16, 17, 18, 19, 20, 21, 22, 23, 24, 25, 26, 27, 28, 29, 30, 31, 32, 33, 34, 35, 36, 37, 38, 39, 40, 41, 42, 43, 44, 45] (by decide +kernel) (by decide +kernel)
set_option maxRecDepth 20000 in
theorem gX4_faultOfOrder_X4_isSuit : GoodIn wsX4_faultOfOrder (wsV RX4 116 RX4 yX4_isSuit wsX4_isSuit) := goodIn_app (goodIn_of _ (by decide +kernel)) ggX4_faultOfOrder_X4_isSuit
theorem dX4_faultOfOrder_0 : decode cX4_faultOfOrder 0 = .ok (.iconst 0, 1) := by decide +kernel
theorem dX4_faultOfOrder_1 : decode cX4_faultOfOrder 1 = .ok (.istore_n 1, 1) := by decide +kernel
theorem dX4_faultOfOrder_2 : decode cX4_faultOfOrder 2 = .ok (.iconst 0, 1) := by decide +kernel
theorem dX4_faultOfOrder_3 : decode cX4_faultOfOrder 3 = .ok (.istore_n 2, 1) := by decide +kernel
theorem dX4_faultOfOrder_4 : decode cX4_faultOfOrder 4 = .ok (.iload_n 2, 1) := by decide +kernel
theorem dX4_faultOfOrder_5 : decode cX4_faultOfOrder 5 = .ok (.aload_n 0, 1) := by decide +kernel
theorem dX4_faultOfOrder_6 : decode cX4_faultOfOrder 6 = .ok (.getfield 86, 3) := by decide +kernel
theorem dX4_faultOfOrder_9 : decode cX4_faultOfOrder 9 = .ok (.if_icmp .ge 52, 3) := by decide +kernel
theorem dX4_faultOfOrder_12 : decode cX4_faultOfOrder 12 = .ok (.aload_n 0, 1) := by decide +kernel
theorem dX4_faultOfOrder_13 : decode cX4_faultOfOrder 13 = .ok (.getfield 31, 3) := by decide +kernel
theorem dX4_faultOfOrder_16 : decode cX4_faultOfOrder 16 = .ok (.iload_n 2, 1) := by decide +kernel
theorem dX4_faultOfOrder_17 : decode cX4_faultOfOrder 17 = .ok (.iaload, 1) := by decide +kernel
theorem dX4_faultOfOrder_18 : decode cX4_faultOfOrder 18 = .ok (.bipush 48, 2) := by decide +kernel
theorem dX4_faultOfOrder_20 : decode cX4_faultOfOrder 20 = .ok (.isub, 1) := by decide +kernel
theorem dX4_faultOfOrder_21 : decode cX4_faultOfOrder 21 = .ok (.istore_n 3, 1) := by decide +kernel
theorem dX4_faultOfOrder_22 : decode cX4_faultOfOrder 22 = .ok (.iload_n 2, 1) := by decide +kernel
theorem dX4_faultOfOrder_23 : decode cX4_faultOfOrder 23 = .ok (.aload_n 0, 1) := by decide +kernel
theorem dX4_faultOfOrder_24 : decode cX4_faultOfOrder 24 = .ok (.getfield 113, 3) := by decide +kernel
theorem dX4_faultOfOrder_27 : decode cX4_faultOfOrder 27 = .ok (.if_icmp .eq 20, 3) := by decide +kernel
theorem dX4_faultOfOrder_30 : decode cX4_faultOfOrder 30 = .ok (.aload_n 0, 1) := by decide +kernel
theorem dX4_faultOfOrder_31 : decode cX4_faultOfOrder 31 = .ok (.iload_n 3, 1) := by decide +kernel
theorem dX4_faultOfOrder_32 : decode cX4_faultOfOrder 32 = .ok (.invokevirtual 116, 3) := by decide +kernel
theorem dX4_faultOfOrder_35 : decode cX4_faultOfOrder 35 = .ok (.ifCond .eq 12, 3) := by decide +kernel
theorem dX4_faultOfOrder_38 : decode cX4_faultOfOrder 38 = .ok (.iload_n 1, 1) := by decide +kernel
theorem dX4_faultOfOrder_39 : decode cX4_faultOfOrder 39 = .ok (.iload_n 3, 1) := by decide +kernel
theorem dX4_faultOfOrder_40 : decode cX4_faultOfOrder 40 = .ok (.ishr, 1) := by decide +kernel
theorem dX4_faultOfOrder_41 : decode cX4_faultOfOrder 41 = .ok (.iconst 1, 1) := by decide +kernel
theorem dX4_faultOfOrder_42 : decode cX4_faultOfOrder 42 = .ok (.iand, 1) := by decide +kernel
theorem dX4_faultOfOrder_43 : decode cX4_faultOfOrder 43 = .ok (.iconst 1, 1) := by decide +kernel
theorem dX4_faultOfOrder_44 : decode cX4_faultOfOrder 44 = .ok (.if_icmp .ne 5, 3) := by decide +kernel
theorem dX4_faultOfOrder_47 : decode cX4_faultOfOrder 47 = .ok (.iload_n 2, 1) := by decide +kernel
theorem dX4_faultOfOrder_48 : decode cX4_faultOfOrder 48 = .ok (.ireturn, 1) := by decide +kernel
theorem dX4_faultOfOrder_49 : decode cX4_faultOfOrder 49 = .ok (.iload_n 1, 1) := by decide +kernel
theorem dX4_faultOfOrder_50 : decode cX4_faultOfOrder 50 = .ok (.iconst 1, 1) := by decide +kernel
theorem dX4_faultOfOrder_51 : decode cX4_faultOfOrder 51 = .ok (.iload_n 3, 1) := by decide +kernel
theorem dX4_faultOfOrder_52 : decode cX4_faultOfOrder 52 = .ok (.ishl, 1) := by decide +kernel
theorem dX4_faultOfOrder_53 : decode cX4_faultOfOrder 53 = .ok (.ior, 1) := by decide +kernel
theorem dX4_faultOfOrder_54 : decode cX4_faultOfOrder 54 = .ok (.istore_n 1, 1) := by decide +kernel
theorem dX4_faultOfOrder_55 : decode cX4_faultOfOrder 55 = .ok (.iinc 2 1, 3) := by decide +kernel
theorem dX4_faultOfOrder_58 : decode cX4_faultOfOrder 58 = .ok (.goto (-54), 3) := by decide +kernel
theorem dX4_faultOfOrder_61 : decode cX4_faultOfOrder 61 = .ok (.aload_n 0, 1) := by decide +kernel
theorem dX4_faultOfOrder_62 : decode cX4_faultOfOrder 62 = .ok (.getfield 86, 3) := by decide +kernel
theorem dX4_faultOfOrder_65 : decode cX4_faultOfOrder 65 = .ok (.aload_n 0, 1) := by decide +kernel
theorem dX4_faultOfOrder_66 : decode cX4_faultOfOrder 66 = .ok (.getfield 113, 3) := by decide +kernel
theorem dX4_faultOfOrder_69 : decode cX4_faultOfOrder 69 = .ok (.if_icmp .ge 10, 3) := by decide +kernel
theorem dX4_faultOfOrder_72 : decode cX4_faultOfOrder 72 = .ok (.aload_n 0, 1) := by decide +kernel
theorem dX4_faultOfOrder_73 : decode cX4_faultOfOrder 73 = .ok (.getfield 86, 3) := by decide +kernel
theorem dX4_faultOfOrder_76 : decode cX4_faultOfOrder 76 = .ok (.goto 5, 3) := by decide +kernel
theorem dX4_faultOfOrder_79 : decode cX4_faultOfOrder 79 = .ok (.bipush (-6), 2) := by decide +kernel
theorem dX4_faultOfOrder_81 : decode cX4_faultOfOrder 81 = .ok (.ireturn, 1) := by decide +kernel
set_option maxRecDepth 20000 in
theorem ggX4_isSuit_X4_in : GoodIn wsX4_isSuit wsX4_in := goodIn_r _ [5] (by decide +kernel) (by decide +kernel)
set_option maxRecDepth 20000 in
theorem gX4_isSuit_X4_in : GoodIn wsX4_isSuit (va_wsS RX4 72 yX4_in wsX4_in) := goodIn_app (goodIn_of _ (by decide +kernel)) ggX4_isSuit_X4_in
theorem dX4_isSuit_0 : decode cX4_isSuit 0 = .ok (.iload_n 1, 1) := by decide +kernel
theorem dX4_isSuit_1 : decode cX4_isSuit 1 = .ok (.i2l, 1) := by decide +kernel
theorem dX4_isSuit_2 : decode cX4_isSuit 2 = .ok (.lconst 0, 1) := by decide +kernel
theorem dX4_isSuit_3 : decode cX4_isSuit 3 = .ok (.aload_n 0, 1) := by decide +kernel
theorem dX4_isSuit_4 : decode cX4_isSuit 4 = .ok (.getfield 113, 3) := by decide +kernel
theorem dX4_isSuit_7 : decode cX4_isSuit 7 = .ok (.iconst 1, 1) := by decide +kernel
theorem dX4_isSuit_8 : decode cX4_isSuit 8 = .ok (.isub, 1) := by decide +kernel
theorem dX4_isSuit_9 : decode cX4_isSuit 9 = .ok (.i2l, 1) := by decide +kernel
theorem dX4_isSuit_10 : decode cX4_isSuit 10 = .ok (.invokestatic 72, 3) := by decide +kernel
theorem dX4_isSuit_13 : decode cX4_isSuit 13 = .ok (.ireturn, 1) := by decide +kernel
set_option maxRecDepth 20000 in
theorem ggX4_fault_X4_faultOfSuits : GoodIn wsX4_fault wsX4_faultOfSuits := goodIn_r _ [5, 6, 7, 8, 9, 10, 11, 12, 13, 14, 4, 15, 16, 17, 18, 19, 20, 21, 22, 23, 24, 34, 35, 36, 37, 38, 39, 40, 41, 42, 43, 44, 45, 46, 47, 48, 49, 50, 51, 52, 53, 54, 55, 56, 57, 58, 59, 60, 61, 62, 63, 64, 65, 66, 67] (by decide +kernel) (by decide +kernel)
set_option maxRecDepth 20000 in
theorem gX4_fault_X4_faultOfSuits : GoodIn wsX4_fault (wsV RX4 119 RX4 yX4_faultOfSuits wsX4_faultOfSuits) := goodIn_app (goodIn_of _ (by decide +kernel)) ggX4_fault_X4_faultOfSuits
set_option maxRecDepth 20000 in
theorem ggX4_fault_X4_faultOfOrder : GoodIn wsX4_fault wsX4_faultOfOrder := goodIn_r _ [28, 10, 11, 29, 30, 31, 32, 4, 33, 18, 19, 20, 34, 35, 36, 37, 38, 39, 40, 41, 42, 43, 44, 45, 46, 47, 48, 49, 50, 51, 52, 53, 54, 55, 56, 57, 58, 59, 60, 61, 62, 63, 64, 65, 66, 67] (by decide +kernel) (by decide +kernel)
set_option maxRecDepth 20000 in
theorem gX4_fault_X4_faultOfOrder : GoodIn wsX4_fault (wsV RX4 123 RX4 yX4_faultOfOrder wsX4_faultOfOrder) := goodIn_app (goodIn_of _ (by decide +kernel)) ggX4_fault_X4_faultOfOrder
theorem dX4_fault_0 : decode cX4_fault 0 = .ok (.iload_n 1, 1) := by decide +kernel
theorem dX4_fault_1 : decode cX4_fault 1 = .ok (.ifCond .ne 10, 3) := by decide +kernel
theorem dX4_fault_4 : decode cX4_fault 4 = .ok (.aload_n 0, 1) := by decide +kernel
theorem dX4_fault_5 : decode cX4_fault 5 = .ok (.invokevirtual 119, 3) := by decide +kernel
theorem dX4_fault_8 : decode cX4_fault 8 = .ok (.goto 17, 3) := by decide +kernel
theorem dX4_fault_11 : decode cX4_fault 11 = .ok (.iload_n 1, 1) := by decide +kernel
theorem dX4_fault_12 : decode cX4_fault 12 = .ok (.iconst 1, 1) := by decide +kernel
theorem dX4_fault_13 : decode cX4_fault 13 = .ok (.if_icmp .ne 10, 3) := by decide +kernel
theorem dX4_fault_16 : decode cX4_fault 16 = .ok (.aload_n 0, 1) := by decide +kernel
theorem dX4_fault_17 : decode cX4_fault 17 = .ok (.invokevirtual 123, 3) := by decide +kernel
theorem dX4_fault_20 : decode cX4_fault 20 = .ok (.goto 5, 3) := by decide +kernel
theorem dX4_fault_23 : decode cX4_fault 23 = .ok (.bipush (-2), 2) := by decide +kernel
theorem dX4_fault_25 : decode cX4_fault 25 = .ok (.ireturn, 1) := by decide +kernel
set_option maxRecDepth 20000 in
theorem ggX4_suits_X4_faultOfSuits : GoodIn wsX4_suits wsX4_faultOfSuits := goodIn_r _ [17, 18, 19, 20, 1, 3, 4, 21, 22, 23, 16, 24, 5, 6, 25, 26, 27, 28, 29, 30, 31, 32, 33, 34, 35, 36, 37, 38, 39, 40, 41, 42, 43, 44, 45, 46, 47, 48, 49, 50, 51, 52, 53, 54, 55, 56, 57, 58, 59, 60, 61, 62, 63, 64, 65] (by decide +kernel) (by decide +kernel)
set_option maxRecDepth 20000 in
theorem gX4_suits_X4_faultOfSuits : GoodIn wsX4_suits (wsV RX4 119 RX4 yX4_faultOfSuits wsX4_faultOfSuits) := goodIn_app (goodIn_of _ (by decide +kernel)) ggX4_suits_X4_faultOfSuits
set_option maxRecDepth 20000 in
theorem ggX4_suits_X4_in : GoodIn wsX4_suits wsX4_in := goodIn_r _ [27] (by decide +kernel) (by decide +kernel)
set_option maxRecDepth 20000 in
theorem gX4_suits_X4_in : GoodIn wsX4_suits (va_wsS RX4 72 yX4_in wsX4_in) := goodIn_app (goodIn_of _ (by decide +kernel)) ggX4_suits_X4_in
theorem dX4_suits_0 : decode cX4_suits 0 = .ok (.aload_n 0, 1) := by decide +kernel
theorem dX4_suits_1 : decode cX4_suits 1 = .ok (.invokevirtual 119, 3) := by decide +kernel
theorem dX4_suits_4 : decode cX4_suits 4 = .ok (.ifCond .lt 6, 3) := by decide +kernel
theorem dX4_suits_7 : decode cX4_suits 7 = .ok (.bipush (-5), 2) := by decide +kernel
theorem dX4_suits_9 : decode cX4_suits 9 = .ok (.ireturn, 1) := by decide +kernel
theorem dX4_suits_10 : decode cX4_suits 10 = .ok (.aload_n 0, 1) := by decide +kernel
theorem dX4_suits_11 : decode cX4_suits 11 = .ok (.aload_n 0, 1) := by decide +kernel
theorem dX4_suits_12 : decode cX4_suits 12 = .ok (.getfield 107, 3) := by decide +kernel
theorem dX4_suits_15 : decode cX4_suits 15 = .ok (.putfield 113, 3) := by decide +kernel
theorem dX4_suits_18 : decode cX4_suits 18 = .ok (.iconst 0, 1) := by decide +kernel
theorem dX4_suits_19 : decode cX4_suits 19 = .ok (.istore_n 1, 1) := by decide +kernel
theorem dX4_suits_20 : decode cX4_suits 20 = .ok (.iconst 0, 1) := by decide +kernel
theorem dX4_suits_21 : decode cX4_suits 21 = .ok (.istore_n 2, 1) := by decide +kernel
theorem dX4_suits_22 : decode cX4_suits 22 = .ok (.iconst 0, 1) := by decide +kernel
theorem dX4_suits_23 : decode cX4_suits 23 = .ok (.istore_n 3, 1) := by decide +kernel
theorem dX4_suits_24 : decode cX4_suits 24 = .ok (.iload_n 3, 1) := by decide +kernel
theorem dX4_suits_25 : decode cX4_suits 25 = .ok (.aload_n 0, 1) := by decide +kernel
theorem dX4_suits_26 : decode cX4_suits 26 = .ok (.getfield 86, 3) := by decide +kernel
theorem dX4_suits_29 : decode cX4_suits 29 = .ok (.if_icmp .ge 136, 3) := by decide +kernel
theorem dX4_suits_32 : decode cX4_suits 32 = .ok (.aload_n 0, 1) := by decide +kernel
theorem dX4_suits_33 : decode cX4_suits 33 = .ok (.getfield 31, 3) := by decide +kernel
theorem dX4_suits_36 : decode cX4_suits 36 = .ok (.iload_n 3, 1) := by decide +kernel
theorem dX4_suits_37 : decode cX4_suits 37 = .ok (.iaload, 1) := by decide +kernel
theorem dX4_suits_38 : decode cX4_suits 38 = .ok (.istore 4, 2) := by decide +kernel
theorem dX4_suits_40 : decode cX4_suits 40 = .ok (.iload 4, 2) := by decide +kernel
theorem dX4_suits_42 : decode cX4_suits 42 = .ok (.i2l, 1) := by decide +kernel
theorem dX4_suits_43 : decode cX4_suits 43 = .ok (.ldc2_w 99, 3) := by decide +kernel
theorem dX4_suits_46 : decode cX4_suits 46 = .ok (.ldc2_w 101, 3) := by decide +kernel
theorem dX4_suits_49 : decode cX4_suits 49 = .ok (.invokestatic 72, 3) := by decide +kernel
theorem dX4_suits_52 : decode cX4_suits 52 = .ok (.ifCond .eq 17, 3) := by decide +kernel
theorem dX4_suits_55 : decode cX4_suits 55 = .ok (.bipush 10, 2) := by decide +kernel
theorem dX4_suits_57 : decode cX4_suits 57 = .ok (.iload_n 2, 1) := by decide +kernel
theorem dX4_suits_58 : decode cX4_suits 58 = .ok (.imul, 1) := by decide +kernel
theorem dX4_suits_59 : decode cX4_suits 59 = .ok (.iload 4, 2) := by decide +kernel
theorem dX4_suits_61 : decode cX4_suits 61 = .ok (.iadd, 1) := by decide +kernel
theorem dX4_suits_62 : decode cX4_suits 62 = .ok (.bipush 48, 2) := by decide +kernel
theorem dX4_suits_64 : decode cX4_suits 64 = .ok (.isub, 1) := by decide +kernel
theorem dX4_suits_65 : decode cX4_suits 65 = .ok (.istore_n 2, 1) := by decide +kernel
theorem dX4_suits_66 : decode cX4_suits 66 = .ok (.goto 93, 3) := by decide +kernel
theorem dX4_suits_69 : decode cX4_suits 69 = .ok (.aload_n 0, 1) := by decide +kernel
theorem dX4_suits_70 : decode cX4_suits 70 = .ok (.getfield 7, 3) := by decide +kernel
theorem dX4_suits_73 : decode cX4_suits 73 = .ok (.iload_n 1, 1) := by decide +kernel
theorem dX4_suits_74 : decode cX4_suits 74 = .ok (.iload 4, 2) := by decide +kernel
theorem dX4_suits_76 : decode cX4_suits 76 = .ok (.bipush 43, 2) := by decide +kernel
theorem dX4_suits_78 : decode cX4_suits 78 = .ok (.if_icmp .ne 7, 3) := by decide +kernel
theorem dX4_suits_81 : decode cX4_suits 81 = .ok (.iload_n 2, 1) := by decide +kernel
theorem dX4_suits_82 : decode cX4_suits 82 = .ok (.goto 9, 3) := by decide +kernel
theorem dX4_suits_85 : decode cX4_suits 85 = .ok (.aload_n 0, 1) := by decide +kernel
theorem dX4_suits_86 : decode cX4_suits 86 = .ok (.getfield 7, 3) := by decide +kernel
theorem dX4_suits_89 : decode cX4_suits 89 = .ok (.iload_n 1, 1) := by decide +kernel
theorem dX4_suits_90 : decode cX4_suits 90 = .ok (.iaload, 1) := by decide +kernel
theorem dX4_suits_91 : decode cX4_suits 91 = .ok (.iastore, 1) := by decide +kernel
theorem dX4_suits_92 : decode cX4_suits 92 = .ok (.aload_n 0, 1) := by decide +kernel
theorem dX4_suits_93 : decode cX4_suits 93 = .ok (.getfield 13, 3) := by decide +kernel
theorem dX4_suits_96 : decode cX4_suits 96 = .ok (.iload_n 1, 1) := by decide +kernel
theorem dX4_suits_97 : decode cX4_suits 97 = .ok (.iload 4, 2) := by decide +kernel
theorem dX4_suits_99 : decode cX4_suits 99 = .ok (.bipush 61, 2) := by decide +kernel
theorem dX4_suits_101 : decode cX4_suits 101 = .ok (.if_icmp .ne 7, 3) := by decide +kernel
theorem dX4_suits_104 : decode cX4_suits 104 = .ok (.iload_n 2, 1) := by decide +kernel
theorem dX4_suits_105 : decode cX4_suits 105 = .ok (.goto 9, 3) := by decide +kernel
theorem dX4_suits_108 : decode cX4_suits 108 = .ok (.aload_n 0, 1) := by decide +kernel
theorem dX4_suits_109 : decode cX4_suits 109 = .ok (.getfield 13, 3) := by decide +kernel
theorem dX4_suits_112 : decode cX4_suits 112 = .ok (.iload_n 1, 1) := by decide +kernel
theorem dX4_suits_113 : decode cX4_suits 113 = .ok (.iaload, 1) := by decide +kernel
theorem dX4_suits_114 : decode cX4_suits 114 = .ok (.iastore, 1) := by decide +kernel
theorem dX4_suits_115 : decode cX4_suits 115 = .ok (.iload 4, 2) := by decide +kernel
theorem dX4_suits_117 : decode cX4_suits 117 = .ok (.bipush 112, 2) := by decide +kernel
theorem dX4_suits_119 : decode cX4_suits 119 = .ok (.if_icmp .eq 10, 3) := by decide +kernel
theorem dX4_suits_122 : decode cX4_suits 122 = .ok (.iload 4, 2) := by decide +kernel
theorem dX4_suits_124 : decode cX4_suits 124 = .ok (.bipush 100, 2) := by decide +kernel
theorem dX4_suits_126 : decode cX4_suits 126 = .ok (.if_icmp .ne 31, 3) := by decide +kernel
theorem dX4_suits_129 : decode cX4_suits 129 = .ok (.aload_n 0, 1) := by decide +kernel
theorem dX4_suits_130 : decode cX4_suits 130 = .ok (.getfield 16, 3) := by decide +kernel
theorem dX4_suits_133 : decode cX4_suits 133 = .ok (.iload_n 1, 1) := by decide +kernel
theorem dX4_suits_134 : decode cX4_suits 134 = .ok (.iload_n 2, 1) := by decide +kernel
theorem dX4_suits_135 : decode cX4_suits 135 = .ok (.iastore, 1) := by decide +kernel
theorem dX4_suits_136 : decode cX4_suits 136 = .ok (.aload_n 0, 1) := by decide +kernel
theorem dX4_suits_137 : decode cX4_suits 137 = .ok (.getfield 19, 3) := by decide +kernel
theorem dX4_suits_140 : decode cX4_suits 140 = .ok (.iload_n 1, 1) := by decide +kernel
theorem dX4_suits_141 : decode cX4_suits 141 = .ok (.iload 4, 2) := by decide +kernel
theorem dX4_suits_143 : decode cX4_suits 143 = .ok (.bipush 112, 2) := by decide +kernel
theorem dX4_suits_145 : decode cX4_suits 145 = .ok (.if_icmp .ne 7, 3) := by decide +kernel
theorem dX4_suits_148 : decode cX4_suits 148 = .ok (.iconst 0, 1) := by decide +kernel
theorem dX4_suits_149 : decode cX4_suits 149 = .ok (.goto 4, 3) := by decide +kernel
theorem dX4_suits_152 : decode cX4_suits 152 = .ok (.iconst 1, 1) := by decide +kernel
theorem dX4_suits_153 : decode cX4_suits 153 = .ok (.iastore, 1) := by decide +kernel
theorem dX4_suits_154 : decode cX4_suits 154 = .ok (.iinc 1 1, 3) := by decide +kernel
theorem dX4_suits_157 : decode cX4_suits 157 = .ok (.iconst 0, 1) := by decide +kernel
theorem dX4_suits_158 : decode cX4_suits 158 = .ok (.istore_n 2, 1) := by decide +kernel
theorem dX4_suits_159 : decode cX4_suits 159 = .ok (.iinc 3 1, 3) := by decide +kernel
theorem dX4_suits_162 : decode cX4_suits 162 = .ok (.goto (-138), 3) := by decide +kernel
theorem dX4_suits_165 : decode cX4_suits 165 = .ok (.iconst 0, 1) := by decide +kernel
theorem dX4_suits_166 : decode cX4_suits 166 = .ok (.istore_n 3, 1) := by decide +kernel
theorem dX4_suits_167 : decode cX4_suits 167 = .ok (.iload_n 3, 1) := by decide +kernel
theorem dX4_suits_168 : decode cX4_suits 168 = .ok (.bipush 6, 2) := by decide +kernel
theorem dX4_suits_170 : decode cX4_suits 170 = .ok (.if_icmp .ge 16, 3) := by decide +kernel
theorem dX4_suits_173 : decode cX4_suits 173 = .ok (.aload_n 0, 1) := by decide +kernel
theorem dX4_suits_174 : decode cX4_suits 174 = .ok (.getfield 22, 3) := by decide +kernel
theorem dX4_suits_177 : decode cX4_suits 177 = .ok (.iload_n 3, 1) := by decide +kernel
theorem dX4_suits_178 : decode cX4_suits 178 = .ok (.iload_n 3, 1) := by decide +kernel
theorem dX4_suits_179 : decode cX4_suits 179 = .ok (.iastore, 1) := by decide +kernel
theorem dX4_suits_180 : decode cX4_suits 180 = .ok (.iinc 3 1, 3) := by decide +kernel
theorem dX4_suits_183 : decode cX4_suits 183 = .ok (.goto (-16), 3) := by decide +kernel
theorem dX4_suits_186 : decode cX4_suits 186 = .ok (.aload_n 0, 1) := by decide +kernel
theorem dX4_suits_187 : decode cX4_suits 187 = .ok (.iconst 0, 1) := by decide +kernel
theorem dX4_suits_188 : decode cX4_suits 188 = .ok (.putfield 126, 3) := by decide +kernel
theorem dX4_suits_191 : decode cX4_suits 191 = .ok (.aload_n 0, 1) := by decide +kernel
theorem dX4_suits_192 : decode cX4_suits 192 = .ok (.iconst 0, 1) := by decide +kernel
theorem dX4_suits_193 : decode cX4_suits 193 = .ok (.putfield 86, 3) := by decide +kernel
theorem dX4_suits_196 : decode cX4_suits 196 = .ok (.aload_n 0, 1) := by decide +kernel
theorem dX4_suits_197 : decode cX4_suits 197 = .ok (.getfield 113, 3) := by decide +kernel
theorem dX4_suits_200 : decode cX4_suits 200 = .ok (.ireturn, 1) := by decide +kernel
set_option maxRecDepth 20000 in
theorem ggX4_lay_X4_faultOfOrder : GoodIn wsX4_lay wsX4_faultOfOrder := goodIn_r _ [9, 4, 3, 1, 10, 11, 12, 8, 13, 14, 15, 16, 17, 18, 19, 20, 21, 22, 23, 24, 25, 26, 27, 28, 29, 30, 31, 32, 33, 34, 35, 36, 37, 38, 39, 40, 41, 42, 43, 44, 45, 46, 47, 48, 49, 50] (by decide +kernel) (by decide +kernel)
set_option maxRecDepth 20000 in
theorem gX4_lay_X4_faultOfOrder : GoodIn wsX4_lay (wsV RX4 123 RX4 yX4_faultOfOrder wsX4_faultOfOrder) := goodIn_app (goodIn_of _ (by decide +kernel)) ggX4_lay_X4_faultOfOrder
theorem dX4_lay_0 : decode cX4_lay 0 = .ok (.aload_n 0, 1) := by decide +kernel
theorem dX4_lay_1 : decode cX4_lay 1 = .ok (.invokevirtual 123, 3) := by decide +kernel
theorem dX4_lay_4 : decode cX4_lay 4 = .ok (.ifCond .lt 6, 3) := by decide +kernel
theorem dX4_lay_7 : decode cX4_lay 7 = .ok (.bipush (-5), 2) := by decide +kernel
theorem dX4_lay_9 : decode cX4_lay 9 = .ok (.ireturn, 1) := by decide +kernel
theorem dX4_lay_10 : decode cX4_lay 10 = .ok (.iconst 0, 1) := by decide +kernel
theorem dX4_lay_11 : decode cX4_lay 11 = .ok (.istore_n 1, 1) := by decide +kernel
theorem dX4_lay_12 : decode cX4_lay 12 = .ok (.iload_n 1, 1) := by decide +kernel
theorem dX4_lay_13 : decode cX4_lay 13 = .ok (.aload_n 0, 1) := by decide +kernel
theorem dX4_lay_14 : decode cX4_lay 14 = .ok (.getfield 113, 3) := by decide +kernel
theorem dX4_lay_17 : decode cX4_lay 17 = .ok (.if_icmp .ge 24, 3) := by decide +kernel
theorem dX4_lay_20 : decode cX4_lay 20 = .ok (.aload_n 0, 1) := by decide +kernel
theorem dX4_lay_21 : decode cX4_lay 21 = .ok (.getfield 22, 3) := by decide +kernel
theorem dX4_lay_24 : decode cX4_lay 24 = .ok (.iload_n 1, 1) := by decide +kernel
theorem dX4_lay_25 : decode cX4_lay 25 = .ok (.aload_n 0, 1) := by decide +kernel
theorem dX4_lay_26 : decode cX4_lay 26 = .ok (.getfield 31, 3) := by decide +kernel
theorem dX4_lay_29 : decode cX4_lay 29 = .ok (.iload_n 1, 1) := by decide +kernel
theorem dX4_lay_30 : decode cX4_lay 30 = .ok (.iaload, 1) := by decide +kernel
theorem dX4_lay_31 : decode cX4_lay 31 = .ok (.bipush 48, 2) := by decide +kernel
theorem dX4_lay_33 : decode cX4_lay 33 = .ok (.isub, 1) := by decide +kernel
theorem dX4_lay_34 : decode cX4_lay 34 = .ok (.iastore, 1) := by decide +kernel
theorem dX4_lay_35 : decode cX4_lay 35 = .ok (.iinc 1 1, 3) := by decide +kernel
theorem dX4_lay_38 : decode cX4_lay 38 = .ok (.goto (-26), 3) := by decide +kernel
theorem dX4_lay_41 : decode cX4_lay 41 = .ok (.aload_n 0, 1) := by decide +kernel
theorem dX4_lay_42 : decode cX4_lay 42 = .ok (.iconst 0, 1) := by decide +kernel
theorem dX4_lay_43 : decode cX4_lay 43 = .ok (.putfield 86, 3) := by decide +kernel
theorem dX4_lay_46 : decode cX4_lay 46 = .ok (.iconst 1, 1) := by decide +kernel
theorem dX4_lay_47 : decode cX4_lay 47 = .ok (.ireturn, 1) := by decide +kernel
set_option maxRecDepth 20000 in
theorem ggX4_suit_X4_isSuit : GoodIn wsX4_suit wsX4_isSuit := goodIn_r _ [9, 10, 11, 12, 8, 13, 14, 15, 16, 17, 18, 19, 20, 21, 22, 23, 24, 25, 26, 27, 28, 29, 30, 31, 32, 33, 34, 35, 36, 37, 38, 39, 40, 41, 42, 43, 44, 45, 46, 47] (by decide +kernel) (by decide +kernel)
set_option maxRecDepth 20000 in
theorem gX4_suit_X4_isSuit : GoodIn wsX4_suit (wsV RX4 116 RX4 yX4_isSuit wsX4_isSuit) := goodIn_app (goodIn_of _ (by decide +kernel)) ggX4_suit_X4_isSuit
theorem dX4_suit_0 : decode cX4_suit 0 = .ok (.aload_n 0, 1) := by decide +kernel
theorem dX4_suit_1 : decode cX4_suit 1 = .ok (.iload_n 1, 1) := by decide +kernel
theorem dX4_suit_2 : decode cX4_suit 2 = .ok (.invokevirtual 116, 3) := by decide +kernel
theorem dX4_suit_5 : decode cX4_suit 5 = .ok (.ifCond .ne 5, 3) := by decide +kernel
theorem dX4_suit_8 : decode cX4_suit 8 = .ok (.iconst (-1), 1) := by decide +kernel
theorem dX4_suit_9 : decode cX4_suit 9 = .ok (.ireturn, 1) := by decide +kernel
theorem dX4_suit_10 : decode cX4_suit 10 = .ok (.iload_n 2, 1) := by decide +kernel
theorem dX4_suit_11 : decode cX4_suit 11 = .ok (.tableswitch 57 0 3 #[29, 36, 43, 50], 29) := by decide +kernel
theorem dX4_suit_40 : decode cX4_suit 40 = .ok (.aload_n 0, 1) := by decide +kernel
theorem dX4_suit_41 : decode cX4_suit 41 = .ok (.getfield 7, 3) := by decide +kernel
theorem dX4_suit_44 : decode cX4_suit 44 = .ok (.iload_n 1, 1) := by decide +kernel
theorem dX4_suit_45 : decode cX4_suit 45 = .ok (.iaload, 1) := by decide +kernel
theorem dX4_suit_46 : decode cX4_suit 46 = .ok (.ireturn, 1) := by decide +kernel
theorem dX4_suit_47 : decode cX4_suit 47 = .ok (.aload_n 0, 1) := by decide +kernel
theorem dX4_suit_48 : decode cX4_suit 48 = .ok (.getfield 13, 3) := by decide +kernel
theorem dX4_suit_51 : decode cX4_suit 51 = .ok (.iload_n 1, 1) := by decide +kernel
theorem dX4_suit_52 : decode cX4_suit 52 = .ok (.iaload, 1) := by decide +kernel
theorem dX4_suit_53 : decode cX4_suit 53 = .ok (.ireturn, 1) := by decide +kernel
theorem dX4_suit_54 : decode cX4_suit 54 = .ok (.aload_n 0, 1) := by decide +kernel
theorem dX4_suit_55 : decode cX4_suit 55 = .ok (.getfield 16, 3) := by decide +kernel
theorem dX4_suit_58 : decode cX4_suit 58 = .ok (.iload_n 1, 1) := by decide +kernel
theorem dX4_suit_59 : decode cX4_suit 59 = .ok (.iaload, 1) := by decide +kernel
theorem dX4_suit_60 : decode cX4_suit 60 = .ok (.ireturn, 1) := by decide +kernel
theorem dX4_suit_61 : decode cX4_suit 61 = .ok (.aload_n 0, 1) := by decide +kernel
theorem dX4_suit_62 : decode cX4_suit 62 = .ok (.getfield 19, 3) := by decide +kernel
theorem dX4_suit_65 : decode cX4_suit 65 = .ok (.iload_n 1, 1) := by decide +kernel
theorem dX4_suit_66 : decode cX4_suit 66 = .ok (.iaload, 1) := by decide +kernel
theorem dX4_suit_67 : decode cX4_suit 67 = .ok (.ireturn, 1) := by decide +kernel
theorem dX4_suit_68 : decode cX4_suit 68 = .ok (.bipush (-2), 2) := by decide +kernel
theorem dX4_suit_70 : decode cX4_suit 70 = .ok (.ireturn, 1) := by decide +kernel
theorem dX4_floatsBy_0 : decode cX4_floatsBy 0 = .ok (.bipush 60, 2) := by decide +kernel
theorem dX4_floatsBy_2 : decode cX4_floatsBy 2 = .ok (.iload_n 1, 1) := by decide +kernel
theorem dX4_floatsBy_3 : decode cX4_floatsBy 3 = .ok (.imul, 1) := by decide +kernel
theorem dX4_floatsBy_4 : decode cX4_floatsBy 4 = .ok (.iload_n 2, 1) := by decide +kernel
theorem dX4_floatsBy_5 : decode cX4_floatsBy 5 = .ok (.idiv, 1) := by decide +kernel
theorem dX4_floatsBy_6 : decode cX4_floatsBy 6 = .ok (.aload_n 0, 1) := by decide +kernel
theorem dX4_floatsBy_7 : decode cX4_floatsBy 7 = .ok (.getfield 76, 3) := by decide +kernel
theorem dX4_floatsBy_10 : decode cX4_floatsBy 10 = .ok (.iadd, 1) := by decide +kernel
theorem dX4_floatsBy_11 : decode cX4_floatsBy 11 = .ok (.ireturn, 1) := by decide +kernel
set_option maxRecDepth 20000 in
theorem ggX4_layNow_X4_floatsBy : GoodIn wsX4_layNow wsX4_floatsBy := goodIn_r _ [13, 14, 20, 21, 22, 23, 24, 25, 26, 27, 28, 29, 30, 31, 32, 33, 34, 35, 36, 37, 38, 39, 40, 41, 42, 43, 44, 45, 46, 47, 48, 49, 50, 51, 52, 53] (by decide +kernel) (by decide +kernel)
set_option maxRecDepth 20000 in
theorem gX4_layNow_X4_floatsBy : GoodIn wsX4_layNow (wsV RX4 132 RX4 yX4_floatsBy wsX4_floatsBy) := goodIn_app (goodIn_of _ (by decide +kernel)) ggX4_layNow_X4_floatsBy
set_option maxRecDepth 20000 in
theorem ggX4_layNow_X4_clear : GoodIn wsX4_layNow wsX4_clear := goodIn_r _ [18, 19, 20, 21, 22, 23, 24, 25, 26, 27, 28, 29, 30, 31, 32, 33, 34, 35, 36, 37, 38, 39, 40, 41, 42, 43, 44, 45, 46, 47, 48, 49, 50, 51, 52, 53] (by decide +kernel) (by decide +kernel)
set_option maxRecDepth 20000 in
theorem gX4_layNow_X4_clear : GoodIn wsX4_layNow (wsV RX4 139 RX4 yX4_clear wsX4_clear) := goodIn_app (goodIn_of _ (by decide +kernel)) ggX4_layNow_X4_clear
theorem dX4_layNow_0 : decode cX4_layNow 0 = .ok (.iconst 0, 1) := by decide +kernel
theorem dX4_layNow_1 : decode cX4_layNow 1 = .ok (.istore_n 1, 1) := by decide +kernel
theorem dX4_layNow_2 : decode cX4_layNow 2 = .ok (.iload_n 1, 1) := by decide +kernel
theorem dX4_layNow_3 : decode cX4_layNow 3 = .ok (.bipush 6, 2) := by decide +kernel
theorem dX4_layNow_5 : decode cX4_layNow 5 = .ok (.if_icmp .ge 28, 3) := by decide +kernel
theorem dX4_layNow_8 : decode cX4_layNow 8 = .ok (.aload_n 0, 1) := by decide +kernel
theorem dX4_layNow_9 : decode cX4_layNow 9 = .ok (.getfield 34, 3) := by decide +kernel
theorem dX4_layNow_12 : decode cX4_layNow 12 = .ok (.iload_n 1, 1) := by decide +kernel
theorem dX4_layNow_13 : decode cX4_layNow 13 = .ok (.aload_n 0, 1) := by decide +kernel
theorem dX4_layNow_14 : decode cX4_layNow 14 = .ok (.getfield 22, 3) := by decide +kernel
theorem dX4_layNow_17 : decode cX4_layNow 17 = .ok (.iload_n 1, 1) := by decide +kernel
theorem dX4_layNow_18 : decode cX4_layNow 18 = .ok (.iaload, 1) := by decide +kernel
theorem dX4_layNow_19 : decode cX4_layNow 19 = .ok (.iastore, 1) := by decide +kernel
theorem dX4_layNow_20 : decode cX4_layNow 20 = .ok (.aload_n 0, 1) := by decide +kernel
theorem dX4_layNow_21 : decode cX4_layNow 21 = .ok (.getfield 37, 3) := by decide +kernel
theorem dX4_layNow_24 : decode cX4_layNow 24 = .ok (.iload_n 1, 1) := by decide +kernel
theorem dX4_layNow_25 : decode cX4_layNow 25 = .ok (.iconst 0, 1) := by decide +kernel
theorem dX4_layNow_26 : decode cX4_layNow 26 = .ok (.iastore, 1) := by decide +kernel
theorem dX4_layNow_27 : decode cX4_layNow 27 = .ok (.iinc 1 1, 3) := by decide +kernel
theorem dX4_layNow_30 : decode cX4_layNow 30 = .ok (.goto (-28), 3) := by decide +kernel
theorem dX4_layNow_33 : decode cX4_layNow 33 = .ok (.aload_n 0, 1) := by decide +kernel
theorem dX4_layNow_34 : decode cX4_layNow 34 = .ok (.aload_n 0, 1) := by decide +kernel
theorem dX4_layNow_35 : decode cX4_layNow 35 = .ok (.getfield 113, 3) := by decide +kernel
theorem dX4_layNow_38 : decode cX4_layNow 38 = .ok (.putfield 129, 3) := by decide +kernel
theorem dX4_layNow_41 : decode cX4_layNow 41 = .ok (.aload_n 0, 1) := by decide +kernel
theorem dX4_layNow_42 : decode cX4_layNow 42 = .ok (.aload_n 0, 1) := by decide +kernel
theorem dX4_layNow_43 : decode cX4_layNow 43 = .ok (.aload_n 0, 1) := by decide +kernel
theorem dX4_layNow_44 : decode cX4_layNow 44 = .ok (.getfield 63, 3) := by decide +kernel
theorem dX4_layNow_47 : decode cX4_layNow 47 = .ok (.aload_n 0, 1) := by decide +kernel
theorem dX4_layNow_48 : decode cX4_layNow 48 = .ok (.getfield 67, 3) := by decide +kernel
theorem dX4_layNow_51 : decode cX4_layNow 51 = .ok (.invokevirtual 132, 3) := by decide +kernel
theorem dX4_layNow_54 : decode cX4_layNow 54 = .ok (.putfield 136, 3) := by decide +kernel
theorem dX4_layNow_57 : decode cX4_layNow 57 = .ok (.aload_n 0, 1) := by decide +kernel
theorem dX4_layNow_58 : decode cX4_layNow 58 = .ok (.invokevirtual 139, 3) := by decide +kernel
theorem dX4_layNow_61 : decode cX4_layNow 61 = .ok (.return_, 1) := by decide +kernel
theorem dX4_clear_0 : decode cX4_clear 0 = .ok (.iconst 0, 1) := by decide +kernel
theorem dX4_clear_1 : decode cX4_clear 1 = .ok (.istore_n 1, 1) := by decide +kernel
theorem dX4_clear_2 : decode cX4_clear 2 = .ok (.iload_n 1, 1) := by decide +kernel
theorem dX4_clear_3 : decode cX4_clear 3 = .ok (.iconst 4, 1) := by decide +kernel
theorem dX4_clear_4 : decode cX4_clear 4 = .ok (.if_icmp .ge 16, 3) := by decide +kernel
theorem dX4_clear_7 : decode cX4_clear 7 = .ok (.aload_n 0, 1) := by decide +kernel
theorem dX4_clear_8 : decode cX4_clear 8 = .ok (.getfield 40, 3) := by decide +kernel
theorem dX4_clear_11 : decode cX4_clear 11 = .ok (.iload_n 1, 1) := by decide +kernel
theorem dX4_clear_12 : decode cX4_clear 12 = .ok (.lconst 0, 1) := by decide +kernel
theorem dX4_clear_13 : decode cX4_clear 13 = .ok (.lastore, 1) := by decide +kernel
theorem dX4_clear_14 : decode cX4_clear 14 = .ok (.iinc 1 1, 3) := by decide +kernel
theorem dX4_clear_17 : decode cX4_clear 17 = .ok (.goto (-15), 3) := by decide +kernel
theorem dX4_clear_20 : decode cX4_clear 20 = .ok (.return_, 1) := by decide +kernel
theorem dX4_lengthOf_0 : decode cX4_lengthOf 0 = .ok (.aload_n 0, 1) := by decide +kernel
theorem dX4_lengthOf_1 : decode cX4_lengthOf 1 = .ok (.getfield 7, 3) := by decide +kernel
theorem dX4_lengthOf_4 : decode cX4_lengthOf 4 = .ok (.iload_n 1, 1) := by decide +kernel
theorem dX4_lengthOf_5 : decode cX4_lengthOf 5 = .ok (.iaload, 1) := by decide +kernel
theorem dX4_lengthOf_6 : decode cX4_lengthOf 6 = .ok (.aload_n 0, 1) := by decide +kernel
theorem dX4_lengthOf_7 : decode cX4_lengthOf 7 = .ok (.getfield 13, 3) := by decide +kernel
theorem dX4_lengthOf_10 : decode cX4_lengthOf 10 = .ok (.iload_n 1, 1) := by decide +kernel
theorem dX4_lengthOf_11 : decode cX4_lengthOf 11 = .ok (.iaload, 1) := by decide +kernel
theorem dX4_lengthOf_12 : decode cX4_lengthOf 12 = .ok (.iadd, 1) := by decide +kernel
theorem dX4_lengthOf_13 : decode cX4_lengthOf 13 = .ok (.aload_n 0, 1) := by decide +kernel
theorem dX4_lengthOf_14 : decode cX4_lengthOf 14 = .ok (.getfield 37, 3) := by decide +kernel
theorem dX4_lengthOf_17 : decode cX4_lengthOf 17 = .ok (.iload_n 1, 1) := by decide +kernel
theorem dX4_lengthOf_18 : decode cX4_lengthOf 18 = .ok (.iaload, 1) := by decide +kernel
theorem dX4_lengthOf_19 : decode cX4_lengthOf 19 = .ok (.iadd, 1) := by decide +kernel
theorem dX4_lengthOf_20 : decode cX4_lengthOf 20 = .ok (.ireturn, 1) := by decide +kernel
set_option maxRecDepth 20000 in
theorem ggX4_plead_X4_lengthOf : GoodIn wsX4_plead wsX4_lengthOf := goodIn_r _ [14, 15, 16, 17, 18, 19, 20, 21, 22, 23, 24, 25, 26, 27, 28, 29, 30, 31, 32, 33, 34, 35, 36, 37, 38, 39, 40, 41, 42, 43, 44, 45, 46, 47, 48, 49, 50, 51] (by decide +kernel) (by decide +kernel)
set_option maxRecDepth 20000 in
theorem gX4_plead_X4_lengthOf : GoodIn wsX4_plead (wsV RX4 148 RX4 yX4_lengthOf wsX4_lengthOf) := goodIn_app (goodIn_of _ (by decide +kernel)) ggX4_plead_X4_lengthOf
theorem dX4_plead_0 : decode cX4_plead 0 = .ok (.aload_n 0, 1) := by decide +kernel
theorem dX4_plead_1 : decode cX4_plead 1 = .ok (.iconst 0, 1) := by decide +kernel
theorem dX4_plead_2 : decode cX4_plead 2 = .ok (.putfield 142, 3) := by decide +kernel
theorem dX4_plead_5 : decode cX4_plead 5 = .ok (.aload_n 0, 1) := by decide +kernel
theorem dX4_plead_6 : decode cX4_plead 6 = .ok (.bipush (-6), 2) := by decide +kernel
theorem dX4_plead_8 : decode cX4_plead 8 = .ok (.putfield 145, 3) := by decide +kernel
theorem dX4_plead_11 : decode cX4_plead 11 = .ok (.iconst 0, 1) := by decide +kernel
theorem dX4_plead_12 : decode cX4_plead 12 = .ok (.istore_n 1, 1) := by decide +kernel
theorem dX4_plead_13 : decode cX4_plead 13 = .ok (.aload_n 0, 1) := by decide +kernel
theorem dX4_plead_14 : decode cX4_plead 14 = .ok (.getfield 142, 3) := by decide +kernel
theorem dX4_plead_17 : decode cX4_plead 17 = .ok (.aload_n 0, 1) := by decide +kernel
theorem dX4_plead_18 : decode cX4_plead 18 = .ok (.getfield 129, 3) := by decide +kernel
theorem dX4_plead_21 : decode cX4_plead 21 = .ok (.if_icmp .ge 93, 3) := by decide +kernel
theorem dX4_plead_24 : decode cX4_plead 24 = .ok (.iload_n 1, 1) := by decide +kernel
theorem dX4_plead_25 : decode cX4_plead 25 = .ok (.aload_n 0, 1) := by decide +kernel
theorem dX4_plead_26 : decode cX4_plead 26 = .ok (.aload_n 0, 1) := by decide +kernel
theorem dX4_plead_27 : decode cX4_plead 27 = .ok (.getfield 34, 3) := by decide +kernel
theorem dX4_plead_30 : decode cX4_plead 30 = .ok (.aload_n 0, 1) := by decide +kernel
theorem dX4_plead_31 : decode cX4_plead 31 = .ok (.getfield 142, 3) := by decide +kernel
theorem dX4_plead_34 : decode cX4_plead 34 = .ok (.iaload, 1) := by decide +kernel
theorem dX4_plead_35 : decode cX4_plead 35 = .ok (.invokevirtual 148, 3) := by decide +kernel
theorem dX4_plead_38 : decode cX4_plead 38 = .ok (.iadd, 1) := by decide +kernel
theorem dX4_plead_39 : decode cX4_plead 39 = .ok (.aload_n 0, 1) := by decide +kernel
theorem dX4_plead_40 : decode cX4_plead 40 = .ok (.getfield 136, 3) := by decide +kernel
theorem dX4_plead_43 : decode cX4_plead 43 = .ok (.if_icmp .gt 71, 3) := by decide +kernel
theorem dX4_plead_46 : decode cX4_plead 46 = .ok (.aload_n 0, 1) := by decide +kernel
theorem dX4_plead_47 : decode cX4_plead 47 = .ok (.getfield 34, 3) := by decide +kernel
theorem dX4_plead_50 : decode cX4_plead 50 = .ok (.aload_n 0, 1) := by decide +kernel
theorem dX4_plead_51 : decode cX4_plead 51 = .ok (.getfield 142, 3) := by decide +kernel
theorem dX4_plead_54 : decode cX4_plead 54 = .ok (.iaload, 1) := by decide +kernel
theorem dX4_plead_55 : decode cX4_plead 55 = .ok (.istore_n 2, 1) := by decide +kernel
theorem dX4_plead_56 : decode cX4_plead 56 = .ok (.iload_n 1, 1) := by decide +kernel
theorem dX4_plead_57 : decode cX4_plead 57 = .ok (.aload_n 0, 1) := by decide +kernel
theorem dX4_plead_58 : decode cX4_plead 58 = .ok (.iload_n 2, 1) := by decide +kernel
theorem dX4_plead_59 : decode cX4_plead 59 = .ok (.invokevirtual 148, 3) := by decide +kernel
theorem dX4_plead_62 : decode cX4_plead 62 = .ok (.iadd, 1) := by decide +kernel
theorem dX4_plead_63 : decode cX4_plead 63 = .ok (.istore_n 1, 1) := by decide +kernel
theorem dX4_plead_64 : decode cX4_plead 64 = .ok (.aload_n 0, 1) := by decide +kernel
theorem dX4_plead_65 : decode cX4_plead 65 = .ok (.getfield 40, 3) := by decide +kernel
theorem dX4_plead_68 : decode cX4_plead 68 = .ok (.aload_n 0, 1) := by decide +kernel
theorem dX4_plead_69 : decode cX4_plead 69 = .ok (.getfield 19, 3) := by decide +kernel
theorem dX4_plead_72 : decode cX4_plead 72 = .ok (.iload_n 2, 1) := by decide +kernel
theorem dX4_plead_73 : decode cX4_plead 73 = .ok (.iaload, 1) := by decide +kernel
theorem dX4_plead_74 : decode cX4_plead 74 = .ok (.dup2, 1) := by decide +kernel
theorem dX4_plead_75 : decode cX4_plead 75 = .ok (.laload, 1) := by decide +kernel
theorem dX4_plead_76 : decode cX4_plead 76 = .ok (.aload_n 0, 1) := by decide +kernel
theorem dX4_plead_77 : decode cX4_plead 77 = .ok (.getfield 16, 3) := by decide +kernel
theorem dX4_plead_80 : decode cX4_plead 80 = .ok (.iload_n 2, 1) := by decide +kernel
theorem dX4_plead_81 : decode cX4_plead 81 = .ok (.iaload, 1) := by decide +kernel
theorem dX4_plead_82 : decode cX4_plead 82 = .ok (.i2l, 1) := by decide +kernel
theorem dX4_plead_83 : decode cX4_plead 83 = .ok (.ladd, 1) := by decide +kernel
theorem dX4_plead_84 : decode cX4_plead 84 = .ok (.lastore, 1) := by decide +kernel
theorem dX4_plead_85 : decode cX4_plead 85 = .ok (.aload_n 0, 1) := by decide +kernel
theorem dX4_plead_86 : decode cX4_plead 86 = .ok (.getfield 40, 3) := by decide +kernel
theorem dX4_plead_89 : decode cX4_plead 89 = .ok (.iconst 3, 1) := by decide +kernel
theorem dX4_plead_90 : decode cX4_plead 90 = .ok (.dup2, 1) := by decide +kernel
theorem dX4_plead_91 : decode cX4_plead 91 = .ok (.laload, 1) := by decide +kernel
theorem dX4_plead_92 : decode cX4_plead 92 = .ok (.aload_n 0, 1) := by decide +kernel
theorem dX4_plead_93 : decode cX4_plead 93 = .ok (.getfield 16, 3) := by decide +kernel
theorem dX4_plead_96 : decode cX4_plead 96 = .ok (.iload_n 2, 1) := by decide +kernel
theorem dX4_plead_97 : decode cX4_plead 97 = .ok (.iaload, 1) := by decide +kernel
theorem dX4_plead_98 : decode cX4_plead 98 = .ok (.i2l, 1) := by decide +kernel
theorem dX4_plead_99 : decode cX4_plead 99 = .ok (.ladd, 1) := by decide +kernel
theorem dX4_plead_100 : decode cX4_plead 100 = .ok (.lastore, 1) := by decide +kernel
theorem dX4_plead_101 : decode cX4_plead 101 = .ok (.aload_n 0, 1) := by decide +kernel
theorem dX4_plead_102 : decode cX4_plead 102 = .ok (.dup, 1) := by decide +kernel
theorem dX4_plead_103 : decode cX4_plead 103 = .ok (.getfield 142, 3) := by decide +kernel
theorem dX4_plead_106 : decode cX4_plead 106 = .ok (.iconst 1, 1) := by decide +kernel
theorem dX4_plead_107 : decode cX4_plead 107 = .ok (.iadd, 1) := by decide +kernel
theorem dX4_plead_108 : decode cX4_plead 108 = .ok (.putfield 142, 3) := by decide +kernel
theorem dX4_plead_111 : decode cX4_plead 111 = .ok (.goto (-98), 3) := by decide +kernel
theorem dX4_plead_114 : decode cX4_plead 114 = .ok (.aload_n 0, 1) := by decide +kernel
theorem dX4_plead_115 : decode cX4_plead 115 = .ok (.getfield 142, 3) := by decide +kernel
theorem dX4_plead_118 : decode cX4_plead 118 = .ok (.aload_n 0, 1) := by decide +kernel
theorem dX4_plead_119 : decode cX4_plead 119 = .ok (.getfield 129, 3) := by decide +kernel
theorem dX4_plead_122 : decode cX4_plead 122 = .ok (.if_icmp .ge 46, 3) := by decide +kernel
theorem dX4_plead_125 : decode cX4_plead 125 = .ok (.aload_n 0, 1) := by decide +kernel
theorem dX4_plead_126 : decode cX4_plead 126 = .ok (.aload_n 0, 1) := by decide +kernel
theorem dX4_plead_127 : decode cX4_plead 127 = .ok (.getfield 34, 3) := by decide +kernel
theorem dX4_plead_130 : decode cX4_plead 130 = .ok (.aload_n 0, 1) := by decide +kernel
theorem dX4_plead_131 : decode cX4_plead 131 = .ok (.getfield 142, 3) := by decide +kernel
theorem dX4_plead_134 : decode cX4_plead 134 = .ok (.iaload, 1) := by decide +kernel
theorem dX4_plead_135 : decode cX4_plead 135 = .ok (.putfield 145, 3) := by decide +kernel
theorem dX4_plead_138 : decode cX4_plead 138 = .ok (.aload_n 0, 1) := by decide +kernel
theorem dX4_plead_139 : decode cX4_plead 139 = .ok (.getfield 40, 3) := by decide +kernel
theorem dX4_plead_142 : decode cX4_plead 142 = .ok (.aload_n 0, 1) := by decide +kernel
theorem dX4_plead_143 : decode cX4_plead 143 = .ok (.getfield 79, 3) := by decide +kernel
theorem dX4_plead_146 : decode cX4_plead 146 = .ok (.ifCond .ne 7, 3) := by decide +kernel
theorem dX4_plead_149 : decode cX4_plead 149 = .ok (.iconst 0, 1) := by decide +kernel
theorem dX4_plead_150 : decode cX4_plead 150 = .ok (.goto 4, 3) := by decide +kernel
theorem dX4_plead_153 : decode cX4_plead 153 = .ok (.iconst 2, 1) := by decide +kernel
theorem dX4_plead_154 : decode cX4_plead 154 = .ok (.dup2, 1) := by decide +kernel
theorem dX4_plead_155 : decode cX4_plead 155 = .ok (.laload, 1) := by decide +kernel
theorem dX4_plead_156 : decode cX4_plead 156 = .ok (.aload_n 0, 1) := by decide +kernel
theorem dX4_plead_157 : decode cX4_plead 157 = .ok (.getfield 16, 3) := by decide +kernel
theorem dX4_plead_160 : decode cX4_plead 160 = .ok (.aload_n 0, 1) := by decide +kernel
theorem dX4_plead_161 : decode cX4_plead 161 = .ok (.getfield 145, 3) := by decide +kernel
theorem dX4_plead_164 : decode cX4_plead 164 = .ok (.iaload, 1) := by decide +kernel
theorem dX4_plead_165 : decode cX4_plead 165 = .ok (.i2l, 1) := by decide +kernel
theorem dX4_plead_166 : decode cX4_plead 166 = .ok (.ladd, 1) := by decide +kernel
theorem dX4_plead_167 : decode cX4_plead 167 = .ok (.lastore, 1) := by decide +kernel
theorem dX4_plead_168 : decode cX4_plead 168 = .ok (.return_, 1) := by decide +kernel
set_option maxRecDepth 20000 in
theorem ggX4_goDay_X4_layNow : GoodIn wsX4_goDay wsX4_layNow := goodIn_r _ [5, 6, 7, 8, 9, 10, 11, 12, 13, 14, 15, 16, 4, 17, 18, 19, 20, 21, 22, 23, 39, 40, 41, 42, 43, 44, 45, 46, 47, 48, 49, 50, 51, 52, 53, 54, 55, 56, 57, 58, 59, 60, 61, 62, 63, 64, 65, 66, 67, 68, 69, 70, 71, 72] (by decide +kernel) (by decide +kernel)
set_option maxRecDepth 20000 in
theorem gX4_goDay_X4_layNow : GoodIn wsX4_goDay (wsV RX4 152 RX4 yX4_layNow wsX4_layNow) := goodIn_app (goodIn_of _ (by decide +kernel)) ggX4_goDay_X4_layNow
set_option maxRecDepth 20000 in
theorem ggX4_goDay_X4_plead : GoodIn wsX4_goDay wsX4_plead := goodIn_r _ [27, 28, 29, 10, 6, 13, 23, 30, 31, 32, 33, 34, 35, 4, 36, 37, 38, 8, 39, 40, 41, 42, 43, 44, 45, 46, 47, 48, 49, 50, 51, 52, 53, 54, 55, 56, 57, 58, 59, 60, 61, 62, 63, 64, 65, 66, 67, 68, 69, 70, 71, 72] (by decide +kernel) (by decide +kernel)
set_option maxRecDepth 20000 in
theorem gX4_goDay_X4_plead : GoodIn wsX4_goDay (wsV RX4 155 RX4 yX4_plead wsX4_plead) := goodIn_app (goodIn_of _ (by decide +kernel)) ggX4_goDay_X4_plead
theorem dX4_goDay_0 : decode cX4_goDay 0 = .ok (.aload_n 0, 1) := by decide +kernel
theorem dX4_goDay_1 : decode cX4_goDay 1 = .ok (.invokevirtual 152, 3) := by decide +kernel
theorem dX4_goDay_4 : decode cX4_goDay 4 = .ok (.aload_n 0, 1) := by decide +kernel
theorem dX4_goDay_5 : decode cX4_goDay 5 = .ok (.invokevirtual 155, 3) := by decide +kernel
theorem dX4_goDay_8 : decode cX4_goDay 8 = .ok (.return_, 1) := by decide +kernel
set_option maxRecDepth 20000 in
theorem ggX4_day_X4_in : GoodIn wsX4_day wsX4_in := goodIn_r _ [8] (by decide +kernel) (by decide +kernel)
set_option maxRecDepth 20000 in
theorem gX4_day_X4_in : GoodIn wsX4_day (va_wsS RX4 72 yX4_in wsX4_in) := goodIn_app (goodIn_of _ (by decide +kernel)) ggX4_day_X4_in
set_option maxRecDepth 20000 in
theorem ggX4_day_X4_goDay : GoodIn wsX4_day wsX4_goDay := goodIn_r _ [12, 13, 14, 15, 7, 16, 17, 18, 19, 20, 21, 22, 23, 2, 24, 25, 26, 27, 28, 29, 30, 31, 32, 33, 34, 35, 36, 37, 3, 4, 38, 39, 40, 41, 42, 43, 44, 45, 46, 47, 48, 49, 50, 51, 52, 53, 54, 55, 56, 57, 58, 59, 60, 61, 62, 63, 64, 65, 66, 67, 68, 69, 70, 71, 72, 73, 74, 75, 76, 77, 78, 79, 80] (by decide +kernel) (by decide +kernel)
set_option maxRecDepth 20000 in
theorem gX4_day_X4_goDay : GoodIn wsX4_day (wsV RX4 160 RX4 yX4_goDay wsX4_goDay) := goodIn_app (goodIn_of _ (by decide +kernel)) ggX4_day_X4_goDay
theorem dX4_day_0 : decode cX4_day 0 = .ok (.iload_n 1, 1) := by decide +kernel
theorem dX4_day_1 : decode cX4_day 1 = .ok (.i2l, 1) := by decide +kernel
theorem dX4_day_2 : decode cX4_day 2 = .ok (.lconst 0, 1) := by decide +kernel
theorem dX4_day_3 : decode cX4_day 3 = .ok (.ldc2_w 158, 3) := by decide +kernel
theorem dX4_day_6 : decode cX4_day 6 = .ok (.invokestatic 72, 3) := by decide +kernel
theorem dX4_day_9 : decode cX4_day 9 = .ok (.ifCond .ne 6, 3) := by decide +kernel
theorem dX4_day_12 : decode cX4_day 12 = .ok (.bipush (-2), 2) := by decide +kernel
theorem dX4_day_14 : decode cX4_day 14 = .ok (.ireturn, 1) := by decide +kernel
theorem dX4_day_15 : decode cX4_day 15 = .ok (.aload_n 0, 1) := by decide +kernel
theorem dX4_day_16 : decode cX4_day 16 = .ok (.invokevirtual 160, 3) := by decide +kernel
theorem dX4_day_19 : decode cX4_day 19 = .ok (.iload_n 1, 1) := by decide +kernel
theorem dX4_day_20 : decode cX4_day 20 = .ok (.ifCond .ne 10, 3) := by decide +kernel
theorem dX4_day_23 : decode cX4_day 23 = .ok (.aload_n 0, 1) := by decide +kernel
theorem dX4_day_24 : decode cX4_day 24 = .ok (.getfield 136, 3) := by decide +kernel
theorem dX4_day_27 : decode cX4_day 27 = .ok (.goto 19, 3) := by decide +kernel
theorem dX4_day_30 : decode cX4_day 30 = .ok (.iload_n 1, 1) := by decide +kernel
theorem dX4_day_31 : decode cX4_day 31 = .ok (.iconst 1, 1) := by decide +kernel
theorem dX4_day_32 : decode cX4_day 32 = .ok (.if_icmp .ne 10, 3) := by decide +kernel
theorem dX4_day_35 : decode cX4_day 35 = .ok (.aload_n 0, 1) := by decide +kernel
theorem dX4_day_36 : decode cX4_day 36 = .ok (.getfield 142, 3) := by decide +kernel
theorem dX4_day_39 : decode cX4_day 39 = .ok (.goto 7, 3) := by decide +kernel
theorem dX4_day_42 : decode cX4_day 42 = .ok (.aload_n 0, 1) := by decide +kernel
theorem dX4_day_43 : decode cX4_day 43 = .ok (.getfield 145, 3) := by decide +kernel
theorem dX4_day_46 : decode cX4_day 46 = .ok (.ireturn, 1) := by decide +kernel
theorem dX4_placeOf_0 : decode cX4_placeOf 0 = .ok (.iconst 0, 1) := by decide +kernel
theorem dX4_placeOf_1 : decode cX4_placeOf 1 = .ok (.istore_n 2, 1) := by decide +kernel
theorem dX4_placeOf_2 : decode cX4_placeOf 2 = .ok (.aload_n 0, 1) := by decide +kernel
theorem dX4_placeOf_3 : decode cX4_placeOf 3 = .ok (.getfield 22, 3) := by decide +kernel
theorem dX4_placeOf_6 : decode cX4_placeOf 6 = .ok (.iload_n 2, 1) := by decide +kernel
theorem dX4_placeOf_7 : decode cX4_placeOf 7 = .ok (.iaload, 1) := by decide +kernel
theorem dX4_placeOf_8 : decode cX4_placeOf 8 = .ok (.iload_n 1, 1) := by decide +kernel
theorem dX4_placeOf_9 : decode cX4_placeOf 9 = .ok (.if_icmp .eq 9, 3) := by decide +kernel
theorem dX4_placeOf_12 : decode cX4_placeOf 12 = .ok (.iinc 2 1, 3) := by decide +kernel
theorem dX4_placeOf_15 : decode cX4_placeOf 15 = .ok (.goto (-13), 3) := by decide +kernel
theorem dX4_placeOf_18 : decode cX4_placeOf 18 = .ok (.iload_n 2, 1) := by decide +kernel
theorem dX4_placeOf_19 : decode cX4_placeOf 19 = .ok (.ireturn, 1) := by decide +kernel
set_option maxRecDepth 20000 in
theorem ggX4_endOf_X4_placeOf : GoodIn wsX4_endOf wsX4_placeOf := goodIn_r _ [8, 2, 9, 10, 11, 12, 13, 14, 15, 16, 17, 18, 19, 20, 21, 22, 23, 24, 25, 26, 27, 28, 29, 30, 31, 32, 33, 34, 35, 36, 37, 38, 39, 40, 41, 42] (by decide +kernel) (by decide +kernel)
set_option maxRecDepth 20000 in
theorem gX4_endOf_X4_placeOf : GoodIn wsX4_endOf (wsV RX4 163 RX4 yX4_placeOf wsX4_placeOf) := goodIn_app (goodIn_of _ (by decide +kernel)) ggX4_endOf_X4_placeOf
theorem dX4_endOf_0 : decode cX4_endOf 0 = .ok (.iconst 0, 1) := by decide +kernel
theorem dX4_endOf_1 : decode cX4_endOf 1 = .ok (.istore_n 2, 1) := by decide +kernel
theorem dX4_endOf_2 : decode cX4_endOf 2 = .ok (.iconst 0, 1) := by decide +kernel
theorem dX4_endOf_3 : decode cX4_endOf 3 = .ok (.istore_n 3, 1) := by decide +kernel
theorem dX4_endOf_4 : decode cX4_endOf 4 = .ok (.iload_n 3, 1) := by decide +kernel
theorem dX4_endOf_5 : decode cX4_endOf 5 = .ok (.aload_n 0, 1) := by decide +kernel
theorem dX4_endOf_6 : decode cX4_endOf 6 = .ok (.iload_n 1, 1) := by decide +kernel
theorem dX4_endOf_7 : decode cX4_endOf 7 = .ok (.invokevirtual 163, 3) := by decide +kernel
theorem dX4_endOf_10 : decode cX4_endOf 10 = .ok (.if_icmp .gt 35, 3) := by decide +kernel
theorem dX4_endOf_13 : decode cX4_endOf 13 = .ok (.iload_n 2, 1) := by decide +kernel
theorem dX4_endOf_14 : decode cX4_endOf 14 = .ok (.aload_n 0, 1) := by decide +kernel
theorem dX4_endOf_15 : decode cX4_endOf 15 = .ok (.getfield 7, 3) := by decide +kernel
theorem dX4_endOf_18 : decode cX4_endOf 18 = .ok (.aload_n 0, 1) := by decide +kernel
theorem dX4_endOf_19 : decode cX4_endOf 19 = .ok (.getfield 22, 3) := by decide +kernel
theorem dX4_endOf_22 : decode cX4_endOf 22 = .ok (.iload_n 3, 1) := by decide +kernel
theorem dX4_endOf_23 : decode cX4_endOf 23 = .ok (.iaload, 1) := by decide +kernel
theorem dX4_endOf_24 : decode cX4_endOf 24 = .ok (.iaload, 1) := by decide +kernel
theorem dX4_endOf_25 : decode cX4_endOf 25 = .ok (.aload_n 0, 1) := by decide +kernel
theorem dX4_endOf_26 : decode cX4_endOf 26 = .ok (.getfield 13, 3) := by decide +kernel
theorem dX4_endOf_29 : decode cX4_endOf 29 = .ok (.aload_n 0, 1) := by decide +kernel
theorem dX4_endOf_30 : decode cX4_endOf 30 = .ok (.getfield 22, 3) := by decide +kernel
theorem dX4_endOf_33 : decode cX4_endOf 33 = .ok (.iload_n 3, 1) := by decide +kernel
theorem dX4_endOf_34 : decode cX4_endOf 34 = .ok (.iaload, 1) := by decide +kernel
theorem dX4_endOf_35 : decode cX4_endOf 35 = .ok (.iaload, 1) := by decide +kernel
theorem dX4_endOf_36 : decode cX4_endOf 36 = .ok (.iadd, 1) := by decide +kernel
theorem dX4_endOf_37 : decode cX4_endOf 37 = .ok (.iadd, 1) := by decide +kernel
theorem dX4_endOf_38 : decode cX4_endOf 38 = .ok (.istore_n 2, 1) := by decide +kernel
theorem dX4_endOf_39 : decode cX4_endOf 39 = .ok (.iinc 3 1, 3) := by decide +kernel
theorem dX4_endOf_42 : decode cX4_endOf 42 = .ok (.goto (-38), 3) := by decide +kernel
theorem dX4_endOf_45 : decode cX4_endOf 45 = .ok (.iload_n 2, 1) := by decide +kernel
theorem dX4_endOf_46 : decode cX4_endOf 46 = .ok (.ireturn, 1) := by decide +kernel
set_option maxRecDepth 20000 in
theorem ggX4_over_X4_isSuit : GoodIn wsX4_over wsX4_isSuit := goodIn_r _ [6, 7, 8, 9, 5, 10, 58, 59, 60, 61, 62, 63, 64, 65, 66, 67, 68, 69, 70, 71, 72, 73, 74, 75, 76, 77, 78, 79, 80, 81, 82, 83, 84, 85, 86, 87, 88, 89, 90, 91] (by decide +kernel) (by decide +kernel)
set_option maxRecDepth 20000 in
theorem gX4_over_X4_isSuit : GoodIn wsX4_over (wsV RX4 116 RX4 yX4_isSuit wsX4_isSuit) := goodIn_app (goodIn_of _ (by decide +kernel)) ggX4_over_X4_isSuit
set_option maxRecDepth 20000 in
theorem ggX4_over_X4_in : GoodIn wsX4_over wsX4_in := goodIn_r _ [10] (by decide +kernel) (by decide +kernel)
set_option maxRecDepth 20000 in
theorem gX4_over_X4_in : GoodIn wsX4_over (va_wsS RX4 72 yX4_in wsX4_in) := goodIn_app (goodIn_of _ (by decide +kernel)) ggX4_over_X4_in
set_option maxRecDepth 20000 in
theorem ggX4_over_X4_goDay : GoodIn wsX4_over wsX4_goDay := goodIn_r _ [14, 15, 16, 17, 5, 18, 19, 20, 21, 7, 22, 23, 24, 25, 26, 27, 28, 29, 30, 31, 32, 33, 34, 35, 36, 37, 38, 39, 1, 40, 41, 42, 43, 44, 45, 46, 47, 48, 49, 58, 59, 60, 61, 62, 63, 64, 65, 66, 67, 68, 69, 70, 71, 72, 73, 74, 75, 76, 77, 78, 79, 80, 81, 82, 83, 84, 85, 86, 87, 88, 89, 90, 91] (by decide +kernel) (by decide +kernel)
set_option maxRecDepth 20000 in
theorem gX4_over_X4_goDay : GoodIn wsX4_over (wsV RX4 160 RX4 yX4_goDay wsX4_goDay) := goodIn_app (goodIn_of _ (by decide +kernel)) ggX4_over_X4_goDay
set_option maxRecDepth 20000 in
theorem ggX4_over_X4_placeOf : GoodIn wsX4_over wsX4_placeOf := goodIn_r _ [53, 20, 58, 59, 60, 61, 62, 63, 64, 65, 66, 67, 68, 69, 70, 71, 72, 73, 74, 75, 76, 77, 78, 79, 80, 81, 82, 83, 84, 85, 86, 87, 88, 89, 90, 91] (by decide +kernel) (by decide +kernel)
set_option maxRecDepth 20000 in
theorem gX4_over_X4_placeOf : GoodIn wsX4_over (wsV RX4 163 RX4 yX4_placeOf wsX4_placeOf) := goodIn_app (goodIn_of _ (by decide +kernel)) ggX4_over_X4_placeOf
set_option maxRecDepth 20000 in
theorem ggX4_over_X4_endOf : GoodIn wsX4_over wsX4_endOf := goodIn_r _ [57, 48, 20, 49, 50, 51, 52, 5, 53, 58, 59, 60, 61, 62, 63, 64, 65, 66, 67, 68, 69, 70, 71, 72, 73, 74, 75, 76, 77, 78, 79, 80, 81, 82, 83, 84, 85, 86, 87, 88, 89, 90, 91] (by decide +kernel) (by decide +kernel)
set_option maxRecDepth 20000 in
theorem gX4_over_X4_endOf : GoodIn wsX4_over (wsV RX4 166 RX4 yX4_endOf wsX4_endOf) := goodIn_app (goodIn_of _ (by decide +kernel)) ggX4_over_X4_endOf
theorem dX4_over_0 : decode cX4_over 0 = .ok (.aload_n 0, 1) := by decide +kernel
theorem dX4_over_1 : decode cX4_over 1 = .ok (.iload_n 1, 1) := by decide +kernel
theorem dX4_over_2 : decode cX4_over 2 = .ok (.invokevirtual 116, 3) := by decide +kernel
theorem dX4_over_5 : decode cX4_over 5 = .ok (.ifCond .ne 5, 3) := by decide +kernel
theorem dX4_over_8 : decode cX4_over 8 = .ok (.iconst (-1), 1) := by decide +kernel
theorem dX4_over_9 : decode cX4_over 9 = .ok (.ireturn, 1) := by decide +kernel
theorem dX4_over_10 : decode cX4_over 10 = .ok (.iload_n 2, 1) := by decide +kernel
theorem dX4_over_11 : decode cX4_over 11 = .ok (.i2l, 1) := by decide +kernel
theorem dX4_over_12 : decode cX4_over 12 = .ok (.lconst 0, 1) := by decide +kernel
theorem dX4_over_13 : decode cX4_over 13 = .ok (.lconst 1, 1) := by decide +kernel
theorem dX4_over_14 : decode cX4_over 14 = .ok (.invokestatic 72, 3) := by decide +kernel
theorem dX4_over_17 : decode cX4_over 17 = .ok (.ifCond .ne 6, 3) := by decide +kernel
theorem dX4_over_20 : decode cX4_over 20 = .ok (.bipush (-2), 2) := by decide +kernel
theorem dX4_over_22 : decode cX4_over 22 = .ok (.ireturn, 1) := by decide +kernel
theorem dX4_over_23 : decode cX4_over 23 = .ok (.aload_n 0, 1) := by decide +kernel
theorem dX4_over_24 : decode cX4_over 24 = .ok (.invokevirtual 160, 3) := by decide +kernel
theorem dX4_over_27 : decode cX4_over 27 = .ok (.aload_n 0, 1) := by decide +kernel
theorem dX4_over_28 : decode cX4_over 28 = .ok (.iload_n 1, 1) := by decide +kernel
theorem dX4_over_29 : decode cX4_over 29 = .ok (.invokevirtual 163, 3) := by decide +kernel
theorem dX4_over_32 : decode cX4_over 32 = .ok (.istore_n 3, 1) := by decide +kernel
theorem dX4_over_33 : decode cX4_over 33 = .ok (.iload_n 2, 1) := by decide +kernel
theorem dX4_over_34 : decode cX4_over 34 = .ok (.ifCond .ne 11, 3) := by decide +kernel
theorem dX4_over_37 : decode cX4_over 37 = .ok (.aload_n 0, 1) := by decide +kernel
theorem dX4_over_38 : decode cX4_over 38 = .ok (.iload_n 1, 1) := by decide +kernel
theorem dX4_over_39 : decode cX4_over 39 = .ok (.invokevirtual 166, 3) := by decide +kernel
theorem dX4_over_42 : decode cX4_over 42 = .ok (.goto 28, 3) := by decide +kernel
theorem dX4_over_45 : decode cX4_over 45 = .ok (.iload_n 3, 1) := by decide +kernel
theorem dX4_over_46 : decode cX4_over 46 = .ok (.aload_n 0, 1) := by decide +kernel
theorem dX4_over_47 : decode cX4_over 47 = .ok (.getfield 142, 3) := by decide +kernel
theorem dX4_over_50 : decode cX4_over 50 = .ok (.if_icmp .ge 7, 3) := by decide +kernel
theorem dX4_over_53 : decode cX4_over 53 = .ok (.iconst 0, 1) := by decide +kernel
theorem dX4_over_54 : decode cX4_over 54 = .ok (.goto 16, 3) := by decide +kernel
theorem dX4_over_57 : decode cX4_over 57 = .ok (.iload_n 3, 1) := by decide +kernel
theorem dX4_over_58 : decode cX4_over 58 = .ok (.aload_n 0, 1) := by decide +kernel
theorem dX4_over_59 : decode cX4_over 59 = .ok (.getfield 142, 3) := by decide +kernel
theorem dX4_over_62 : decode cX4_over 62 = .ok (.if_icmp .ne 7, 3) := by decide +kernel
theorem dX4_over_65 : decode cX4_over 65 = .ok (.iconst 1, 1) := by decide +kernel
theorem dX4_over_66 : decode cX4_over 66 = .ok (.goto 4, 3) := by decide +kernel
theorem dX4_over_69 : decode cX4_over 69 = .ok (.iconst 2, 1) := by decide +kernel
theorem dX4_over_70 : decode cX4_over 70 = .ok (.ireturn, 1) := by decide +kernel
set_option maxRecDepth 20000 in
theorem ggX4_isSide_X4_in : GoodIn wsX4_isSide wsX4_in := goodIn_r _ [5] (by decide +kernel) (by decide +kernel)
set_option maxRecDepth 20000 in
theorem gX4_isSide_X4_in : GoodIn wsX4_isSide (va_wsS RX4 72 yX4_in wsX4_in) := goodIn_app (goodIn_of _ (by decide +kernel)) ggX4_isSide_X4_in
theorem dX4_isSide_0 : decode cX4_isSide 0 = .ok (.iload_n 0, 1) := by decide +kernel
theorem dX4_isSide_1 : decode cX4_isSide 1 = .ok (.i2l, 1) := by decide +kernel
theorem dX4_isSide_2 : decode cX4_isSide 2 = .ok (.lconst 0, 1) := by decide +kernel
theorem dX4_isSide_3 : decode cX4_isSide 3 = .ok (.ldc2_w 70, 3) := by decide +kernel
theorem dX4_isSide_6 : decode cX4_isSide 6 = .ok (.invokestatic 72, 3) := by decide +kernel
theorem dX4_isSide_9 : decode cX4_isSide 9 = .ok (.ireturn, 1) := by decide +kernel
set_option maxRecDepth 20000 in
theorem ggX4_won_X4_isSide : GoodIn wsX4_won wsX4_isSide := goodIn_r _ [5, 6, 7, 8, 4, 9] (by decide +kernel) (by decide +kernel)
set_option maxRecDepth 20000 in
theorem gX4_won_X4_isSide : GoodIn wsX4_won (va_wsS RX4 169 yX4_isSide wsX4_isSide) := goodIn_app (goodIn_of _ (by decide +kernel)) ggX4_won_X4_isSide
set_option maxRecDepth 20000 in
theorem ggX4_won_X4_goDay : GoodIn wsX4_won wsX4_goDay := goodIn_r _ [13, 14, 15, 16, 4, 17, 18, 19, 20, 21, 22, 23, 24, 25, 26, 27, 28, 29, 30, 31, 32, 33, 34, 1, 35, 36, 37, 38, 39, 40, 41, 42, 43, 44, 45, 46, 47, 48, 49, 50, 51, 52, 53, 54, 55, 56, 57, 58, 59, 60, 61, 62, 63, 64, 65, 66, 67, 68, 69, 70, 71, 72, 73, 74, 75, 76, 77, 78, 79, 80, 81, 82, 83] (by decide +kernel) (by decide +kernel)
set_option maxRecDepth 20000 in
theorem gX4_won_X4_goDay : GoodIn wsX4_won (wsV RX4 160 RX4 yX4_goDay wsX4_goDay) := goodIn_app (goodIn_of _ (by decide +kernel)) ggX4_won_X4_goDay
theorem dX4_won_0 : decode cX4_won 0 = .ok (.iload_n 1, 1) := by decide +kernel
theorem dX4_won_1 : decode cX4_won 1 = .ok (.invokestatic 169, 3) := by decide +kernel
theorem dX4_won_4 : decode cX4_won 4 = .ok (.ifCond .ne 6, 3) := by decide +kernel
theorem dX4_won_7 : decode cX4_won 7 = .ok (.bipush (-2), 2) := by decide +kernel
theorem dX4_won_9 : decode cX4_won 9 = .ok (.ireturn, 1) := by decide +kernel
theorem dX4_won_10 : decode cX4_won 10 = .ok (.aload_n 0, 1) := by decide +kernel
theorem dX4_won_11 : decode cX4_won 11 = .ok (.invokevirtual 160, 3) := by decide +kernel
theorem dX4_won_14 : decode cX4_won 14 = .ok (.aload_n 0, 1) := by decide +kernel
theorem dX4_won_15 : decode cX4_won 15 = .ok (.getfield 40, 3) := by decide +kernel
theorem dX4_won_18 : decode cX4_won 18 = .ok (.iload_n 1, 1) := by decide +kernel
theorem dX4_won_19 : decode cX4_won 19 = .ok (.laload, 1) := by decide +kernel
theorem dX4_won_20 : decode cX4_won 20 = .ok (.l2i, 1) := by decide +kernel
theorem dX4_won_21 : decode cX4_won 21 = .ok (.ireturn, 1) := by decide +kernel
theorem dX4_layOrder_0 : decode cX4_layOrder 0 = .ok (.iload_n 1, 1) := by decide +kernel
theorem dX4_layOrder_1 : decode cX4_layOrder 1 = .ok (.istore_n 2, 1) := by decide +kernel
theorem dX4_layOrder_2 : decode cX4_layOrder 2 = .ok (.iconst 0, 1) := by decide +kernel
theorem dX4_layOrder_3 : decode cX4_layOrder 3 = .ok (.istore_n 3, 1) := by decide +kernel
theorem dX4_layOrder_4 : decode cX4_layOrder 4 = .ok (.aload_n 0, 1) := by decide +kernel
theorem dX4_layOrder_5 : decode cX4_layOrder 5 = .ok (.getfield 113, 3) := by decide +kernel
theorem dX4_layOrder_8 : decode cX4_layOrder 8 = .ok (.iconst 1, 1) := by decide +kernel
theorem dX4_layOrder_9 : decode cX4_layOrder 9 = .ok (.isub, 1) := by decide +kernel
theorem dX4_layOrder_10 : decode cX4_layOrder 10 = .ok (.istore 4, 2) := by decide +kernel
theorem dX4_layOrder_12 : decode cX4_layOrder 12 = .ok (.iload 4, 2) := by decide +kernel
theorem dX4_layOrder_14 : decode cX4_layOrder 14 = .ok (.ifCond .lt 41, 3) := by decide +kernel
theorem dX4_layOrder_17 : decode cX4_layOrder 17 = .ok (.aload_n 0, 1) := by decide +kernel
theorem dX4_layOrder_18 : decode cX4_layOrder 18 = .ok (.getfield 34, 3) := by decide +kernel
theorem dX4_layOrder_21 : decode cX4_layOrder 21 = .ok (.iload 4, 2) := by decide +kernel
theorem dX4_layOrder_23 : decode cX4_layOrder 23 = .ok (.iload_n 2, 1) := by decide +kernel
theorem dX4_layOrder_24 : decode cX4_layOrder 24 = .ok (.aload_n 0, 1) := by decide +kernel
theorem dX4_layOrder_25 : decode cX4_layOrder 25 = .ok (.getfield 113, 3) := by decide +kernel
theorem dX4_layOrder_28 : decode cX4_layOrder 28 = .ok (.irem, 1) := by decide +kernel
theorem dX4_layOrder_29 : decode cX4_layOrder 29 = .ok (.iastore, 1) := by decide +kernel
theorem dX4_layOrder_30 : decode cX4_layOrder 30 = .ok (.iload_n 3, 1) := by decide +kernel
theorem dX4_layOrder_31 : decode cX4_layOrder 31 = .ok (.iconst 1, 1) := by decide +kernel
theorem dX4_layOrder_32 : decode cX4_layOrder 32 = .ok (.aload_n 0, 1) := by decide +kernel
theorem dX4_layOrder_33 : decode cX4_layOrder 33 = .ok (.getfield 34, 3) := by decide +kernel
theorem dX4_layOrder_36 : decode cX4_layOrder 36 = .ok (.iload 4, 2) := by decide +kernel
theorem dX4_layOrder_38 : decode cX4_layOrder 38 = .ok (.iaload, 1) := by decide +kernel
theorem dX4_layOrder_39 : decode cX4_layOrder 39 = .ok (.ishl, 1) := by decide +kernel
theorem dX4_layOrder_40 : decode cX4_layOrder 40 = .ok (.ior, 1) := by decide +kernel
theorem dX4_layOrder_41 : decode cX4_layOrder 41 = .ok (.istore_n 3, 1) := by decide +kernel
theorem dX4_layOrder_42 : decode cX4_layOrder 42 = .ok (.iload_n 2, 1) := by decide +kernel
theorem dX4_layOrder_43 : decode cX4_layOrder 43 = .ok (.aload_n 0, 1) := by decide +kernel
theorem dX4_layOrder_44 : decode cX4_layOrder 44 = .ok (.getfield 113, 3) := by decide +kernel
theorem dX4_layOrder_47 : decode cX4_layOrder 47 = .ok (.idiv, 1) := by decide +kernel
theorem dX4_layOrder_48 : decode cX4_layOrder 48 = .ok (.istore_n 2, 1) := by decide +kernel
theorem dX4_layOrder_49 : decode cX4_layOrder 49 = .ok (.iinc 4 (-1), 3) := by decide +kernel
theorem dX4_layOrder_52 : decode cX4_layOrder 52 = .ok (.goto (-40), 3) := by decide +kernel
theorem dX4_layOrder_55 : decode cX4_layOrder 55 = .ok (.iload_n 3, 1) := by decide +kernel
theorem dX4_layOrder_56 : decode cX4_layOrder 56 = .ok (.iconst 1, 1) := by decide +kernel
theorem dX4_layOrder_57 : decode cX4_layOrder 57 = .ok (.aload_n 0, 1) := by decide +kernel
theorem dX4_layOrder_58 : decode cX4_layOrder 58 = .ok (.getfield 113, 3) := by decide +kernel
theorem dX4_layOrder_61 : decode cX4_layOrder 61 = .ok (.ishl, 1) := by decide +kernel
theorem dX4_layOrder_62 : decode cX4_layOrder 62 = .ok (.iconst 1, 1) := by decide +kernel
theorem dX4_layOrder_63 : decode cX4_layOrder 63 = .ok (.isub, 1) := by decide +kernel
theorem dX4_layOrder_64 : decode cX4_layOrder 64 = .ok (.if_icmp .ne 7, 3) := by decide +kernel
theorem dX4_layOrder_67 : decode cX4_layOrder 67 = .ok (.iconst 1, 1) := by decide +kernel
theorem dX4_layOrder_68 : decode cX4_layOrder 68 = .ok (.goto 4, 3) := by decide +kernel
theorem dX4_layOrder_71 : decode cX4_layOrder 71 = .ok (.iconst 0, 1) := by decide +kernel
theorem dX4_layOrder_72 : decode cX4_layOrder 72 = .ok (.ireturn, 1) := by decide +kernel
set_option maxRecDepth 20000 in
theorem ggX4_order_X4_isSide : GoodIn wsX4_order wsX4_isSide := goodIn_r _ [9, 10, 11, 12, 8, 13] (by decide +kernel) (by decide +kernel)
set_option maxRecDepth 20000 in
theorem gX4_order_X4_isSide : GoodIn wsX4_order (va_wsS RX4 169 yX4_isSide wsX4_isSide) := goodIn_app (goodIn_of _ (by decide +kernel)) ggX4_order_X4_isSide
set_option maxRecDepth 20000 in
theorem ggX4_order_X4_layNow : GoodIn wsX4_order wsX4_layNow := goodIn_r _ [17, 5, 18, 19, 1, 20, 21, 22, 23, 24, 25, 26, 8, 27, 28, 29, 30, 31, 32, 3, 56, 57, 58, 59, 60, 61, 62, 63, 64, 65, 66, 67, 68, 69, 70, 71, 72, 73, 74, 75, 76, 77, 78, 79, 80, 81, 82, 83, 84, 85, 86, 87, 88, 89] (by decide +kernel) (by decide +kernel)
set_option maxRecDepth 20000 in
theorem gX4_order_X4_layNow : GoodIn wsX4_order (wsV RX4 152 RX4 yX4_layNow wsX4_layNow) := goodIn_app (goodIn_of _ (by decide +kernel)) ggX4_order_X4_layNow
set_option maxRecDepth 20000 in
theorem ggX4_order_X4_layOrder : GoodIn wsX4_order wsX4_layOrder := goodIn_r _ [36, 1, 5, 56, 57, 58, 59, 60, 61, 62, 63, 64, 65, 66, 67, 68, 69, 70, 71, 72, 73, 74, 75, 76, 77, 78, 79, 80, 81, 82, 83, 84, 85, 86, 87, 88, 89] (by decide +kernel) (by decide +kernel)
set_option maxRecDepth 20000 in
theorem gX4_order_X4_layOrder : GoodIn wsX4_order (wsV RX4 174 RX4 yX4_layOrder wsX4_layOrder) := goodIn_app (goodIn_of _ (by decide +kernel)) ggX4_order_X4_layOrder
set_option maxRecDepth 20000 in
theorem ggX4_order_X4_clear : GoodIn wsX4_order wsX4_clear := goodIn_r _ [32, 3, 56, 57, 58, 59, 60, 61, 62, 63, 64, 65, 66, 67, 68, 69, 70, 71, 72, 73, 74, 75, 76, 77, 78, 79, 80, 81, 82, 83, 84, 85, 86, 87, 88, 89] (by decide +kernel) (by decide +kernel)
set_option maxRecDepth 20000 in
theorem gX4_order_X4_clear : GoodIn wsX4_order (wsV RX4 139 RX4 yX4_clear wsX4_clear) := goodIn_app (goodIn_of _ (by decide +kernel)) ggX4_order_X4_clear
set_option maxRecDepth 20000 in
theorem ggX4_order_X4_plead : GoodIn wsX4_order wsX4_plead := goodIn_r _ [40, 41, 42, 20, 5, 23, 3, 43, 44, 45, 46, 47, 48, 8, 49, 50, 51, 19, 56, 57, 58, 59, 60, 61, 62, 63, 64, 65, 66, 67, 68, 69, 70, 71, 72, 73, 74, 75, 76, 77, 78, 79, 80, 81, 82, 83, 84, 85, 86, 87, 88, 89] (by decide +kernel) (by decide +kernel)
set_option maxRecDepth 20000 in
theorem gX4_order_X4_plead : GoodIn wsX4_order (wsV RX4 155 RX4 yX4_plead wsX4_plead) := goodIn_app (goodIn_of _ (by decide +kernel)) ggX4_order_X4_plead
set_option maxRecDepth 20000 in
theorem ggX4_order_X4_isSuit : GoodIn wsX4_order wsX4_isSuit := goodIn_r _ [55, 1, 11, 12, 8, 13, 56, 57, 58, 59, 60, 61, 62, 63, 64, 65, 66, 67, 68, 69, 70, 71, 72, 73, 74, 75, 76, 77, 78, 79, 80, 81, 82, 83, 84, 85, 86, 87, 88, 89] (by decide +kernel) (by decide +kernel)
set_option maxRecDepth 20000 in
theorem gX4_order_X4_isSuit : GoodIn wsX4_order (wsV RX4 116 RX4 yX4_isSuit wsX4_isSuit) := goodIn_app (goodIn_of _ (by decide +kernel)) ggX4_order_X4_isSuit
theorem dX4_order_0 : decode cX4_order 0 = .ok (.iload_n 1, 1) := by decide +kernel
theorem dX4_order_1 : decode cX4_order 1 = .ok (.invokestatic 169, 3) := by decide +kernel
theorem dX4_order_4 : decode cX4_order 4 = .ok (.ifCond .ne 6, 3) := by decide +kernel
theorem dX4_order_7 : decode cX4_order 7 = .ok (.bipush (-2), 2) := by decide +kernel
theorem dX4_order_9 : decode cX4_order 9 = .ok (.ireturn, 1) := by decide +kernel
theorem dX4_order_10 : decode cX4_order 10 = .ok (.aload_n 0, 1) := by decide +kernel
theorem dX4_order_11 : decode cX4_order 11 = .ok (.invokevirtual 152, 3) := by decide +kernel
theorem dX4_order_14 : decode cX4_order 14 = .ok (.iconst 1, 1) := by decide +kernel
theorem dX4_order_15 : decode cX4_order 15 = .ok (.istore_n 3, 1) := by decide +kernel
theorem dX4_order_16 : decode cX4_order 16 = .ok (.iconst 0, 1) := by decide +kernel
theorem dX4_order_17 : decode cX4_order 17 = .ok (.istore 4, 2) := by decide +kernel
theorem dX4_order_19 : decode cX4_order 19 = .ok (.iload 4, 2) := by decide +kernel
theorem dX4_order_21 : decode cX4_order 21 = .ok (.aload_n 0, 1) := by decide +kernel
theorem dX4_order_22 : decode cX4_order 22 = .ok (.getfield 113, 3) := by decide +kernel
theorem dX4_order_25 : decode cX4_order 25 = .ok (.if_icmp .ge 16, 3) := by decide +kernel
theorem dX4_order_28 : decode cX4_order 28 = .ok (.iload_n 3, 1) := by decide +kernel
theorem dX4_order_29 : decode cX4_order 29 = .ok (.aload_n 0, 1) := by decide +kernel
theorem dX4_order_30 : decode cX4_order 30 = .ok (.getfield 113, 3) := by decide +kernel
theorem dX4_order_33 : decode cX4_order 33 = .ok (.imul, 1) := by decide +kernel
theorem dX4_order_34 : decode cX4_order 34 = .ok (.istore_n 3, 1) := by decide +kernel
theorem dX4_order_35 : decode cX4_order 35 = .ok (.iinc 4 1, 3) := by decide +kernel
theorem dX4_order_38 : decode cX4_order 38 = .ok (.goto (-19), 3) := by decide +kernel
theorem dX4_order_41 : decode cX4_order 41 = .ok (.ldc2_w 172, 3) := by decide +kernel
theorem dX4_order_44 : decode cX4_order 44 = .ok (.lstore 4, 2) := by decide +kernel
theorem dX4_order_46 : decode cX4_order 46 = .ok (.iconst 0, 1) := by decide +kernel
theorem dX4_order_47 : decode cX4_order 47 = .ok (.istore 6, 2) := by decide +kernel
theorem dX4_order_49 : decode cX4_order 49 = .ok (.iload 6, 2) := by decide +kernel
theorem dX4_order_51 : decode cX4_order 51 = .ok (.iload_n 3, 1) := by decide +kernel
theorem dX4_order_52 : decode cX4_order 52 = .ok (.if_icmp .ge 78, 3) := by decide +kernel
theorem dX4_order_55 : decode cX4_order 55 = .ok (.aload_n 0, 1) := by decide +kernel
theorem dX4_order_56 : decode cX4_order 56 = .ok (.iload 6, 2) := by decide +kernel
theorem dX4_order_58 : decode cX4_order 58 = .ok (.invokevirtual 174, 3) := by decide +kernel
theorem dX4_order_61 : decode cX4_order 61 = .ok (.ifCond .eq 63, 3) := by decide +kernel
theorem dX4_order_64 : decode cX4_order 64 = .ok (.aload_n 0, 1) := by decide +kernel
theorem dX4_order_65 : decode cX4_order 65 = .ok (.invokevirtual 139, 3) := by decide +kernel
theorem dX4_order_68 : decode cX4_order 68 = .ok (.aload_n 0, 1) := by decide +kernel
theorem dX4_order_69 : decode cX4_order 69 = .ok (.invokevirtual 155, 3) := by decide +kernel
theorem dX4_order_72 : decode cX4_order 72 = .ok (.aload_n 0, 1) := by decide +kernel
theorem dX4_order_73 : decode cX4_order 73 = .ok (.getfield 40, 3) := by decide +kernel
theorem dX4_order_76 : decode cX4_order 76 = .ok (.iload_n 1, 1) := by decide +kernel
theorem dX4_order_77 : decode cX4_order 77 = .ok (.laload, 1) := by decide +kernel
theorem dX4_order_78 : decode cX4_order 78 = .ok (.lload 4, 2) := by decide +kernel
theorem dX4_order_80 : decode cX4_order 80 = .ok (.lcmp, 1) := by decide +kernel
theorem dX4_order_81 : decode cX4_order 81 = .ok (.ifCond .le 43, 3) := by decide +kernel
theorem dX4_order_84 : decode cX4_order 84 = .ok (.aload_n 0, 1) := by decide +kernel
theorem dX4_order_85 : decode cX4_order 85 = .ok (.getfield 40, 3) := by decide +kernel
theorem dX4_order_88 : decode cX4_order 88 = .ok (.iload_n 1, 1) := by decide +kernel
theorem dX4_order_89 : decode cX4_order 89 = .ok (.laload, 1) := by decide +kernel
theorem dX4_order_90 : decode cX4_order 90 = .ok (.lstore 4, 2) := by decide +kernel
theorem dX4_order_92 : decode cX4_order 92 = .ok (.iconst 0, 1) := by decide +kernel
theorem dX4_order_93 : decode cX4_order 93 = .ok (.istore 7, 2) := by decide +kernel
theorem dX4_order_95 : decode cX4_order 95 = .ok (.iload 7, 2) := by decide +kernel
theorem dX4_order_97 : decode cX4_order 97 = .ok (.aload_n 0, 1) := by decide +kernel
theorem dX4_order_98 : decode cX4_order 98 = .ok (.getfield 113, 3) := by decide +kernel
theorem dX4_order_101 : decode cX4_order 101 = .ok (.if_icmp .ge 23, 3) := by decide +kernel
theorem dX4_order_104 : decode cX4_order 104 = .ok (.aload_n 0, 1) := by decide +kernel
theorem dX4_order_105 : decode cX4_order 105 = .ok (.getfield 44, 3) := by decide +kernel
theorem dX4_order_108 : decode cX4_order 108 = .ok (.iload 7, 2) := by decide +kernel
theorem dX4_order_110 : decode cX4_order 110 = .ok (.aload_n 0, 1) := by decide +kernel
theorem dX4_order_111 : decode cX4_order 111 = .ok (.getfield 34, 3) := by decide +kernel
theorem dX4_order_114 : decode cX4_order 114 = .ok (.iload 7, 2) := by decide +kernel
theorem dX4_order_116 : decode cX4_order 116 = .ok (.iaload, 1) := by decide +kernel
theorem dX4_order_117 : decode cX4_order 117 = .ok (.iastore, 1) := by decide +kernel
theorem dX4_order_118 : decode cX4_order 118 = .ok (.iinc 7 1, 3) := by decide +kernel
theorem dX4_order_121 : decode cX4_order 121 = .ok (.goto (-26), 3) := by decide +kernel
theorem dX4_order_124 : decode cX4_order 124 = .ok (.iinc 6 1, 3) := by decide +kernel
theorem dX4_order_127 : decode cX4_order 127 = .ok (.goto (-78), 3) := by decide +kernel
theorem dX4_order_130 : decode cX4_order 130 = .ok (.iload_n 2, 1) := by decide +kernel
theorem dX4_order_131 : decode cX4_order 131 = .ok (.iconst (-1), 1) := by decide +kernel
theorem dX4_order_132 : decode cX4_order 132 = .ok (.if_icmp .ne 9, 3) := by decide +kernel
theorem dX4_order_135 : decode cX4_order 135 = .ok (.lload 4, 2) := by decide +kernel
theorem dX4_order_137 : decode cX4_order 137 = .ok (.l2i, 1) := by decide +kernel
theorem dX4_order_138 : decode cX4_order 138 = .ok (.goto 22, 3) := by decide +kernel
theorem dX4_order_141 : decode cX4_order 141 = .ok (.aload_n 0, 1) := by decide +kernel
theorem dX4_order_142 : decode cX4_order 142 = .ok (.iload_n 2, 1) := by decide +kernel
theorem dX4_order_143 : decode cX4_order 143 = .ok (.invokevirtual 116, 3) := by decide +kernel
theorem dX4_order_146 : decode cX4_order 146 = .ok (.ifCond .eq 12, 3) := by decide +kernel
theorem dX4_order_149 : decode cX4_order 149 = .ok (.aload_n 0, 1) := by decide +kernel
theorem dX4_order_150 : decode cX4_order 150 = .ok (.getfield 44, 3) := by decide +kernel
theorem dX4_order_153 : decode cX4_order 153 = .ok (.iload_n 2, 1) := by decide +kernel
theorem dX4_order_154 : decode cX4_order 154 = .ok (.iaload, 1) := by decide +kernel
theorem dX4_order_155 : decode cX4_order 155 = .ok (.goto 5, 3) := by decide +kernel
theorem dX4_order_158 : decode cX4_order 158 = .ok (.bipush (-6), 2) := by decide +kernel
theorem dX4_order_160 : decode cX4_order 160 = .ok (.ireturn, 1) := by decide +kernel
set_option maxRecDepth 20000 in
theorem ggX4_isSet_X4_in : GoodIn wsX4_isSet wsX4_in := goodIn_r _ [5] (by decide +kernel) (by decide +kernel)
set_option maxRecDepth 20000 in
theorem gX4_isSet_X4_in : GoodIn wsX4_isSet (va_wsS RX4 72 yX4_in wsX4_in) := goodIn_app (goodIn_of _ (by decide +kernel)) ggX4_isSet_X4_in
theorem dX4_isSet_0 : decode cX4_isSet 0 = .ok (.iload_n 1, 1) := by decide +kernel
theorem dX4_isSet_1 : decode cX4_isSet 1 = .ok (.i2l, 1) := by decide +kernel
theorem dX4_isSet_2 : decode cX4_isSet 2 = .ok (.lconst 0, 1) := by decide +kernel
theorem dX4_isSet_3 : decode cX4_isSet 3 = .ok (.iconst 1, 1) := by decide +kernel
theorem dX4_isSet_4 : decode cX4_isSet 4 = .ok (.aload_n 0, 1) := by decide +kernel
theorem dX4_isSet_5 : decode cX4_isSet 5 = .ok (.getfield 113, 3) := by decide +kernel
theorem dX4_isSet_8 : decode cX4_isSet 8 = .ok (.ishl, 1) := by decide +kernel
theorem dX4_isSet_9 : decode cX4_isSet 9 = .ok (.iconst 1, 1) := by decide +kernel
theorem dX4_isSet_10 : decode cX4_isSet 10 = .ok (.isub, 1) := by decide +kernel
theorem dX4_isSet_11 : decode cX4_isSet 11 = .ok (.i2l, 1) := by decide +kernel
theorem dX4_isSet_12 : decode cX4_isSet 12 = .ok (.invokestatic 72, 3) := by decide +kernel
theorem dX4_isSet_15 : decode cX4_isSet 15 = .ok (.ireturn, 1) := by decide +kernel
set_option maxRecDepth 20000 in
theorem ggX4_lastEnd_X4_endOf : GoodIn wsX4_lastEnd wsX4_endOf := goodIn_r _ [6, 7, 8, 9, 10, 11, 12, 5, 13, 14, 15, 16, 17, 18, 19, 20, 21, 22, 23, 24, 25, 26, 27, 28, 29, 30, 31, 32, 33, 34, 35, 36, 37, 38, 39, 40, 41, 42, 43, 44, 45, 46, 47] (by decide +kernel) (by decide +kernel)
set_option maxRecDepth 20000 in
theorem gX4_lastEnd_X4_endOf : GoodIn wsX4_lastEnd (wsV RX4 166 RX4 yX4_endOf wsX4_endOf) := goodIn_app (goodIn_of _ (by decide +kernel)) ggX4_lastEnd_X4_endOf
theorem dX4_lastEnd_0 : decode cX4_lastEnd 0 = .ok (.iconst 0, 1) := by decide +kernel
theorem dX4_lastEnd_1 : decode cX4_lastEnd 1 = .ok (.istore_n 2, 1) := by decide +kernel
theorem dX4_lastEnd_2 : decode cX4_lastEnd 2 = .ok (.iconst 0, 1) := by decide +kernel
theorem dX4_lastEnd_3 : decode cX4_lastEnd 3 = .ok (.istore_n 3, 1) := by decide +kernel
theorem dX4_lastEnd_4 : decode cX4_lastEnd 4 = .ok (.iload_n 3, 1) := by decide +kernel
theorem dX4_lastEnd_5 : decode cX4_lastEnd 5 = .ok (.aload_n 0, 1) := by decide +kernel
theorem dX4_lastEnd_6 : decode cX4_lastEnd 6 = .ok (.getfield 113, 3) := by decide +kernel
theorem dX4_lastEnd_9 : decode cX4_lastEnd 9 = .ok (.if_icmp .ge 42, 3) := by decide +kernel
theorem dX4_lastEnd_12 : decode cX4_lastEnd 12 = .ok (.iload_n 1, 1) := by decide +kernel
theorem dX4_lastEnd_13 : decode cX4_lastEnd 13 = .ok (.iload_n 3, 1) := by decide +kernel
theorem dX4_lastEnd_14 : decode cX4_lastEnd 14 = .ok (.ishr, 1) := by decide +kernel
theorem dX4_lastEnd_15 : decode cX4_lastEnd 15 = .ok (.iconst 1, 1) := by decide +kernel
theorem dX4_lastEnd_16 : decode cX4_lastEnd 16 = .ok (.iand, 1) := by decide +kernel
theorem dX4_lastEnd_17 : decode cX4_lastEnd 17 = .ok (.iconst 1, 1) := by decide +kernel
theorem dX4_lastEnd_18 : decode cX4_lastEnd 18 = .ok (.if_icmp .ne 11, 3) := by decide +kernel
theorem dX4_lastEnd_21 : decode cX4_lastEnd 21 = .ok (.aload_n 0, 1) := by decide +kernel
theorem dX4_lastEnd_22 : decode cX4_lastEnd 22 = .ok (.iload_n 3, 1) := by decide +kernel
theorem dX4_lastEnd_23 : decode cX4_lastEnd 23 = .ok (.invokevirtual 166, 3) := by decide +kernel
theorem dX4_lastEnd_26 : decode cX4_lastEnd 26 = .ok (.goto 4, 3) := by decide +kernel
theorem dX4_lastEnd_29 : decode cX4_lastEnd 29 = .ok (.iconst 0, 1) := by decide +kernel
theorem dX4_lastEnd_30 : decode cX4_lastEnd 30 = .ok (.istore 4, 2) := by decide +kernel
theorem dX4_lastEnd_32 : decode cX4_lastEnd 32 = .ok (.iload 4, 2) := by decide +kernel
theorem dX4_lastEnd_34 : decode cX4_lastEnd 34 = .ok (.iload_n 2, 1) := by decide +kernel
theorem dX4_lastEnd_35 : decode cX4_lastEnd 35 = .ok (.if_icmp .le 8, 3) := by decide +kernel
theorem dX4_lastEnd_38 : decode cX4_lastEnd 38 = .ok (.iload 4, 2) := by decide +kernel
theorem dX4_lastEnd_40 : decode cX4_lastEnd 40 = .ok (.goto 4, 3) := by decide +kernel
theorem dX4_lastEnd_43 : decode cX4_lastEnd 43 = .ok (.iload_n 2, 1) := by decide +kernel
theorem dX4_lastEnd_44 : decode cX4_lastEnd 44 = .ok (.istore_n 2, 1) := by decide +kernel
theorem dX4_lastEnd_45 : decode cX4_lastEnd 45 = .ok (.iinc 3 1, 3) := by decide +kernel
theorem dX4_lastEnd_48 : decode cX4_lastEnd 48 = .ok (.goto (-44), 3) := by decide +kernel
theorem dX4_lastEnd_51 : decode cX4_lastEnd 51 = .ok (.iload_n 2, 1) := by decide +kernel
theorem dX4_lastEnd_52 : decode cX4_lastEnd 52 = .ok (.ireturn, 1) := by decide +kernel
set_option maxRecDepth 20000 in
theorem ggX4_wax_X4_isSet : GoodIn wsX4_wax wsX4_isSet := goodIn_r _ [6, 7, 8, 9, 5, 10, 31, 32, 33, 34, 35, 36, 37, 38, 39, 40, 41, 42, 43, 44, 45, 46, 47, 48, 49, 50, 51, 52, 53, 54, 55, 56, 57, 58, 59, 60, 61, 62, 63, 64] (by decide +kernel) (by decide +kernel)
set_option maxRecDepth 20000 in
theorem gX4_wax_X4_isSet : GoodIn wsX4_wax (wsV RX4 177 RX4 yX4_isSet wsX4_isSet) := goodIn_app (goodIn_of _ (by decide +kernel)) ggX4_wax_X4_isSet
set_option maxRecDepth 20000 in
theorem ggX4_wax_X4_lastEnd : GoodIn wsX4_wax wsX4_lastEnd := goodIn_r _ [14, 7, 15, 16, 17, 5, 18, 19, 20, 21, 22, 23, 24, 25, 31, 32, 33, 34, 35, 36, 37, 38, 39, 40, 41, 42, 43, 44, 45, 46, 47, 48, 49, 50, 51, 52, 53, 54, 55, 56, 57, 58, 59, 60, 61, 62, 63, 64] (by decide +kernel) (by decide +kernel)
set_option maxRecDepth 20000 in
theorem gX4_wax_X4_lastEnd : GoodIn wsX4_wax (wsV RX4 180 RX4 yX4_lastEnd wsX4_lastEnd) := goodIn_app (goodIn_of _ (by decide +kernel)) ggX4_wax_X4_lastEnd
set_option maxRecDepth 20000 in
theorem ggX4_wax_X4_floatsBy : GoodIn wsX4_wax wsX4_floatsBy := goodIn_r _ [29, 30, 31, 32, 33, 34, 35, 36, 37, 38, 39, 40, 41, 42, 43, 44, 45, 46, 47, 48, 49, 50, 51, 52, 53, 54, 55, 56, 57, 58, 59, 60, 61, 62, 63, 64] (by decide +kernel) (by decide +kernel)
set_option maxRecDepth 20000 in
theorem gX4_wax_X4_floatsBy : GoodIn wsX4_wax (wsV RX4 132 RX4 yX4_floatsBy wsX4_floatsBy) := goodIn_app (goodIn_of _ (by decide +kernel)) ggX4_wax_X4_floatsBy
theorem dX4_wax_0 : decode cX4_wax 0 = .ok (.aload_n 0, 1) := by decide +kernel
theorem dX4_wax_1 : decode cX4_wax 1 = .ok (.iload_n 1, 1) := by decide +kernel
theorem dX4_wax_2 : decode cX4_wax 2 = .ok (.invokevirtual 177, 3) := by decide +kernel
theorem dX4_wax_5 : decode cX4_wax 5 = .ok (.ifCond .ne 6, 3) := by decide +kernel
theorem dX4_wax_8 : decode cX4_wax 8 = .ok (.bipush (-2), 2) := by decide +kernel
theorem dX4_wax_10 : decode cX4_wax 10 = .ok (.ireturn, 1) := by decide +kernel
theorem dX4_wax_11 : decode cX4_wax 11 = .ok (.aload_n 0, 1) := by decide +kernel
theorem dX4_wax_12 : decode cX4_wax 12 = .ok (.iload_n 1, 1) := by decide +kernel
theorem dX4_wax_13 : decode cX4_wax 13 = .ok (.invokevirtual 180, 3) := by decide +kernel
theorem dX4_wax_16 : decode cX4_wax 16 = .ok (.istore_n 2, 1) := by decide +kernel
theorem dX4_wax_17 : decode cX4_wax 17 = .ok (.iconst 1, 1) := by decide +kernel
theorem dX4_wax_18 : decode cX4_wax 18 = .ok (.istore_n 3, 1) := by decide +kernel
theorem dX4_wax_19 : decode cX4_wax 19 = .ok (.iload_n 3, 1) := by decide +kernel
theorem dX4_wax_20 : decode cX4_wax 20 = .ok (.bipush 100, 2) := by decide +kernel
theorem dX4_wax_22 : decode cX4_wax 22 = .ok (.if_icmp .ge 24, 3) := by decide +kernel
theorem dX4_wax_25 : decode cX4_wax 25 = .ok (.aload_n 0, 1) := by decide +kernel
theorem dX4_wax_26 : decode cX4_wax 26 = .ok (.iload_n 3, 1) := by decide +kernel
theorem dX4_wax_27 : decode cX4_wax 27 = .ok (.aload_n 0, 1) := by decide +kernel
theorem dX4_wax_28 : decode cX4_wax 28 = .ok (.getfield 67, 3) := by decide +kernel
theorem dX4_wax_31 : decode cX4_wax 31 = .ok (.invokevirtual 132, 3) := by decide +kernel
theorem dX4_wax_34 : decode cX4_wax 34 = .ok (.iload_n 2, 1) := by decide +kernel
theorem dX4_wax_35 : decode cX4_wax 35 = .ok (.if_icmp .lt 5, 3) := by decide +kernel
theorem dX4_wax_38 : decode cX4_wax 38 = .ok (.iload_n 3, 1) := by decide +kernel
theorem dX4_wax_39 : decode cX4_wax 39 = .ok (.ireturn, 1) := by decide +kernel
theorem dX4_wax_40 : decode cX4_wax 40 = .ok (.iinc 3 1, 3) := by decide +kernel
theorem dX4_wax_43 : decode cX4_wax 43 = .ok (.goto (-24), 3) := by decide +kernel
theorem dX4_wax_46 : decode cX4_wax 46 = .ok (.bipush (-6), 2) := by decide +kernel
theorem dX4_wax_48 : decode cX4_wax 48 = .ok (.ireturn, 1) := by decide +kernel
set_option maxRecDepth 20000 in
theorem ggX4_finger_X4_isSet : GoodIn wsX4_finger wsX4_isSet := goodIn_r _ [7, 8, 9, 10, 6, 11, 27, 28, 29, 30, 31, 32, 33, 34, 35, 36, 37, 38, 39, 40, 41, 42, 43, 44, 45, 46, 47, 48, 49, 50, 51, 52, 53, 54, 55, 56, 57, 58, 59, 60] (by decide +kernel) (by decide +kernel)
set_option maxRecDepth 20000 in
theorem gX4_finger_X4_isSet : GoodIn wsX4_finger (wsV RX4 177 RX4 yX4_isSet wsX4_isSet) := goodIn_app (goodIn_of _ (by decide +kernel)) ggX4_finger_X4_isSet
set_option maxRecDepth 20000 in
theorem ggX4_finger_X4_lastEnd : GoodIn wsX4_finger wsX4_lastEnd := goodIn_r _ [15, 8, 16, 17, 18, 6, 19, 20, 21, 22, 23, 24, 25, 26, 27, 28, 29, 30, 31, 32, 33, 34, 35, 36, 37, 38, 39, 40, 41, 42, 43, 44, 45, 46, 47, 48, 49, 50, 51, 52, 53, 54, 55, 56, 57, 58, 59, 60] (by decide +kernel) (by decide +kernel)
set_option maxRecDepth 20000 in
theorem gX4_finger_X4_lastEnd : GoodIn wsX4_finger (wsV RX4 180 RX4 yX4_lastEnd wsX4_lastEnd) := goodIn_app (goodIn_of _ (by decide +kernel)) ggX4_finger_X4_lastEnd
theorem dX4_finger_0 : decode cX4_finger 0 = .ok (.aload_n 0, 1) := by decide +kernel
theorem dX4_finger_1 : decode cX4_finger 1 = .ok (.iload_n 1, 1) := by decide +kernel
theorem dX4_finger_2 : decode cX4_finger 2 = .ok (.invokevirtual 177, 3) := by decide +kernel
theorem dX4_finger_5 : decode cX4_finger 5 = .ok (.ifCond .ne 6, 3) := by decide +kernel
theorem dX4_finger_8 : decode cX4_finger 8 = .ok (.bipush (-2), 2) := by decide +kernel
theorem dX4_finger_10 : decode cX4_finger 10 = .ok (.ireturn, 1) := by decide +kernel
theorem dX4_finger_11 : decode cX4_finger 11 = .ok (.aload_n 0, 1) := by decide +kernel
theorem dX4_finger_12 : decode cX4_finger 12 = .ok (.iload_n 1, 1) := by decide +kernel
theorem dX4_finger_13 : decode cX4_finger 13 = .ok (.invokevirtual 180, 3) := by decide +kernel
theorem dX4_finger_16 : decode cX4_finger 16 = .ok (.bipush 60, 2) := by decide +kernel
theorem dX4_finger_18 : decode cX4_finger 18 = .ok (.aload_n 0, 1) := by decide +kernel
theorem dX4_finger_19 : decode cX4_finger 19 = .ok (.getfield 63, 3) := by decide +kernel
theorem dX4_finger_22 : decode cX4_finger 22 = .ok (.imul, 1) := by decide +kernel
theorem dX4_finger_23 : decode cX4_finger 23 = .ok (.aload_n 0, 1) := by decide +kernel
theorem dX4_finger_24 : decode cX4_finger 24 = .ok (.getfield 67, 3) := by decide +kernel
theorem dX4_finger_27 : decode cX4_finger 27 = .ok (.idiv, 1) := by decide +kernel
theorem dX4_finger_28 : decode cX4_finger 28 = .ok (.isub, 1) := by decide +kernel
theorem dX4_finger_29 : decode cX4_finger 29 = .ok (.istore_n 2, 1) := by decide +kernel
theorem dX4_finger_30 : decode cX4_finger 30 = .ok (.iload_n 2, 1) := by decide +kernel
theorem dX4_finger_31 : decode cX4_finger 31 = .ok (.sipush 999, 3) := by decide +kernel
theorem dX4_finger_34 : decode cX4_finger 34 = .ok (.if_icmp .le 8, 3) := by decide +kernel
theorem dX4_finger_37 : decode cX4_finger 37 = .ok (.bipush (-6), 2) := by decide +kernel
theorem dX4_finger_39 : decode cX4_finger 39 = .ok (.goto 12, 3) := by decide +kernel
theorem dX4_finger_42 : decode cX4_finger 42 = .ok (.iload_n 2, 1) := by decide +kernel
theorem dX4_finger_43 : decode cX4_finger 43 = .ok (.ifCond .le 7, 3) := by decide +kernel
theorem dX4_finger_46 : decode cX4_finger 46 = .ok (.iload_n 2, 1) := by decide +kernel
theorem dX4_finger_47 : decode cX4_finger 47 = .ok (.goto 4, 3) := by decide +kernel
theorem dX4_finger_50 : decode cX4_finger 50 = .ok (.iconst 0, 1) := by decide +kernel
theorem dX4_finger_51 : decode cX4_finger 51 = .ok (.ireturn, 1) := by decide +kernel
set_option maxRecDepth 20000 in
theorem ggX4_drawnOut_X4_isSuit : GoodIn wsX4_drawnOut wsX4_isSuit := goodIn_r _ [7, 8, 9, 10, 6, 11, 28, 29, 30, 31, 32, 33, 34, 35, 36, 37, 38, 39, 40, 41, 42, 43, 44, 45, 46, 47, 48, 49, 50, 51, 52, 53, 54, 55, 56, 57, 58, 59, 60, 61] (by decide +kernel) (by decide +kernel)
set_option maxRecDepth 20000 in
theorem gX4_drawnOut_X4_isSuit : GoodIn wsX4_drawnOut (wsV RX4 116 RX4 yX4_isSuit wsX4_isSuit) := goodIn_app (goodIn_of _ (by decide +kernel)) ggX4_drawnOut_X4_isSuit
set_option maxRecDepth 20000 in
theorem ggX4_drawnOut_X4_floatsBy : GoodIn wsX4_drawnOut wsX4_floatsBy := goodIn_r _ [15, 16, 28, 29, 30, 31, 32, 33, 34, 35, 36, 37, 38, 39, 40, 41, 42, 43, 44, 45, 46, 47, 48, 49, 50, 51, 52, 53, 54, 55, 56, 57, 58, 59, 60, 61] (by decide +kernel) (by decide +kernel)
set_option maxRecDepth 20000 in
theorem gX4_drawnOut_X4_floatsBy : GoodIn wsX4_drawnOut (wsV RX4 132 RX4 yX4_floatsBy wsX4_floatsBy) := goodIn_app (goodIn_of _ (by decide +kernel)) ggX4_drawnOut_X4_floatsBy
set_option maxRecDepth 20000 in
theorem ggX4_drawnOut_X4_endOf : GoodIn wsX4_drawnOut wsX4_endOf := goodIn_r _ [20, 21, 22, 23, 24, 25, 26, 6, 27, 28, 29, 30, 31, 32, 33, 34, 35, 36, 37, 38, 39, 40, 41, 42, 43, 44, 45, 46, 47, 48, 49, 50, 51, 52, 53, 54, 55, 56, 57, 58, 59, 60, 61] (by decide +kernel) (by decide +kernel)
set_option maxRecDepth 20000 in
theorem gX4_drawnOut_X4_endOf : GoodIn wsX4_drawnOut (wsV RX4 166 RX4 yX4_endOf wsX4_endOf) := goodIn_app (goodIn_of _ (by decide +kernel)) ggX4_drawnOut_X4_endOf
theorem dX4_drawnOut_0 : decode cX4_drawnOut 0 = .ok (.aload_n 0, 1) := by decide +kernel
theorem dX4_drawnOut_1 : decode cX4_drawnOut 1 = .ok (.iload_n 1, 1) := by decide +kernel
theorem dX4_drawnOut_2 : decode cX4_drawnOut 2 = .ok (.invokevirtual 116, 3) := by decide +kernel
theorem dX4_drawnOut_5 : decode cX4_drawnOut 5 = .ok (.ifCond .ne 5, 3) := by decide +kernel
theorem dX4_drawnOut_8 : decode cX4_drawnOut 8 = .ok (.iconst (-1), 1) := by decide +kernel
theorem dX4_drawnOut_9 : decode cX4_drawnOut 9 = .ok (.ireturn, 1) := by decide +kernel
theorem dX4_drawnOut_10 : decode cX4_drawnOut 10 = .ok (.aload_n 0, 1) := by decide +kernel
theorem dX4_drawnOut_11 : decode cX4_drawnOut 11 = .ok (.aload_n 0, 1) := by decide +kernel
theorem dX4_drawnOut_12 : decode cX4_drawnOut 12 = .ok (.getfield 63, 3) := by decide +kernel
theorem dX4_drawnOut_15 : decode cX4_drawnOut 15 = .ok (.aload_n 0, 1) := by decide +kernel
theorem dX4_drawnOut_16 : decode cX4_drawnOut 16 = .ok (.getfield 67, 3) := by decide +kernel
theorem dX4_drawnOut_19 : decode cX4_drawnOut 19 = .ok (.invokevirtual 132, 3) := by decide +kernel
theorem dX4_drawnOut_22 : decode cX4_drawnOut 22 = .ok (.aload_n 0, 1) := by decide +kernel
theorem dX4_drawnOut_23 : decode cX4_drawnOut 23 = .ok (.iload_n 1, 1) := by decide +kernel
theorem dX4_drawnOut_24 : decode cX4_drawnOut 24 = .ok (.invokevirtual 166, 3) := by decide +kernel
theorem dX4_drawnOut_27 : decode cX4_drawnOut 27 = .ok (.isub, 1) := by decide +kernel
theorem dX4_drawnOut_28 : decode cX4_drawnOut 28 = .ok (.iconst 1, 1) := by decide +kernel
theorem dX4_drawnOut_29 : decode cX4_drawnOut 29 = .ok (.iadd, 1) := by decide +kernel
theorem dX4_drawnOut_30 : decode cX4_drawnOut 30 = .ok (.istore_n 2, 1) := by decide +kernel
theorem dX4_drawnOut_31 : decode cX4_drawnOut 31 = .ok (.iload_n 2, 1) := by decide +kernel
theorem dX4_drawnOut_32 : decode cX4_drawnOut 32 = .ok (.ifCond .le 7, 3) := by decide +kernel
theorem dX4_drawnOut_35 : decode cX4_drawnOut 35 = .ok (.iload_n 2, 1) := by decide +kernel
theorem dX4_drawnOut_36 : decode cX4_drawnOut 36 = .ok (.goto 4, 3) := by decide +kernel
theorem dX4_drawnOut_39 : decode cX4_drawnOut 39 = .ok (.iconst 0, 1) := by decide +kernel
theorem dX4_drawnOut_40 : decode cX4_drawnOut 40 = .ok (.ireturn, 1) := by decide +kernel
theorem dX4_findStall_0 : decode cX4_findStall 0 = .ok (.iconst 0, 1) := by decide +kernel
theorem dX4_findStall_1 : decode cX4_findStall 1 = .ok (.istore_n 3, 1) := by decide +kernel
theorem dX4_findStall_2 : decode cX4_findStall 2 = .ok (.iload_n 3, 1) := by decide +kernel
theorem dX4_findStall_3 : decode cX4_findStall 3 = .ok (.iload_n 1, 1) := by decide +kernel
theorem dX4_findStall_4 : decode cX4_findStall 4 = .ok (.if_icmp .gt 172, 3) := by decide +kernel
theorem dX4_findStall_7 : decode cX4_findStall 7 = .ok (.aload_n 0, 1) := by decide +kernel
theorem dX4_findStall_8 : decode cX4_findStall 8 = .ok (.getfield 47, 3) := by decide +kernel
theorem dX4_findStall_11 : decode cX4_findStall 11 = .ok (.iload_n 3, 1) := by decide +kernel
theorem dX4_findStall_12 : decode cX4_findStall 12 = .ok (.iconst 0, 1) := by decide +kernel
theorem dX4_findStall_13 : decode cX4_findStall 13 = .ok (.bastore, 1) := by decide +kernel
theorem dX4_findStall_14 : decode cX4_findStall 14 = .ok (.aload_n 0, 1) := by decide +kernel
theorem dX4_findStall_15 : decode cX4_findStall 15 = .ok (.getfield 51, 3) := by decide +kernel
theorem dX4_findStall_18 : decode cX4_findStall 18 = .ok (.iload_n 3, 1) := by decide +kernel
theorem dX4_findStall_19 : decode cX4_findStall 19 = .ok (.bipush (-6), 2) := by decide +kernel
theorem dX4_findStall_21 : decode cX4_findStall 21 = .ok (.iastore, 1) := by decide +kernel
theorem dX4_findStall_22 : decode cX4_findStall 22 = .ok (.iconst 0, 1) := by decide +kernel
theorem dX4_findStall_23 : decode cX4_findStall 23 = .ok (.istore 4, 2) := by decide +kernel
theorem dX4_findStall_25 : decode cX4_findStall 25 = .ok (.iconst 0, 1) := by decide +kernel
theorem dX4_findStall_26 : decode cX4_findStall 26 = .ok (.istore 5, 2) := by decide +kernel
theorem dX4_findStall_28 : decode cX4_findStall 28 = .ok (.iconst 1, 1) := by decide +kernel
theorem dX4_findStall_29 : decode cX4_findStall 29 = .ok (.istore 6, 2) := by decide +kernel
theorem dX4_findStall_31 : decode cX4_findStall 31 = .ok (.iload 6, 2) := by decide +kernel
theorem dX4_findStall_33 : decode cX4_findStall 33 = .ok (.iload_n 2, 1) := by decide +kernel
theorem dX4_findStall_34 : decode cX4_findStall 34 = .ok (.if_icmp .gt 112, 3) := by decide +kernel
theorem dX4_findStall_37 : decode cX4_findStall 37 = .ok (.iload 6, 2) := by decide +kernel
theorem dX4_findStall_39 : decode cX4_findStall 39 = .ok (.iload_n 3, 1) := by decide +kernel
theorem dX4_findStall_40 : decode cX4_findStall 40 = .ok (.if_icmp .gt 106, 3) := by decide +kernel
theorem dX4_findStall_43 : decode cX4_findStall 43 = .ok (.aload_n 0, 1) := by decide +kernel
theorem dX4_findStall_44 : decode cX4_findStall 44 = .ok (.getfield 54, 3) := by decide +kernel
theorem dX4_findStall_47 : decode cX4_findStall 47 = .ok (.iload_n 3, 1) := by decide +kernel
theorem dX4_findStall_48 : decode cX4_findStall 48 = .ok (.iload 6, 2) := by decide +kernel
theorem dX4_findStall_50 : decode cX4_findStall 50 = .ok (.isub, 1) := by decide +kernel
theorem dX4_findStall_51 : decode cX4_findStall 51 = .ok (.iaload, 1) := by decide +kernel
theorem dX4_findStall_52 : decode cX4_findStall 52 = .ok (.istore 7, 2) := by decide +kernel
theorem dX4_findStall_54 : decode cX4_findStall 54 = .ok (.aload_n 0, 1) := by decide +kernel
theorem dX4_findStall_55 : decode cX4_findStall 55 = .ok (.getfield 47, 3) := by decide +kernel
theorem dX4_findStall_58 : decode cX4_findStall 58 = .ok (.iload_n 3, 1) := by decide +kernel
theorem dX4_findStall_59 : decode cX4_findStall 59 = .ok (.iload 6, 2) := by decide +kernel
theorem dX4_findStall_61 : decode cX4_findStall 61 = .ok (.isub, 1) := by decide +kernel
theorem dX4_findStall_62 : decode cX4_findStall 62 = .ok (.baload, 1) := by decide +kernel
theorem dX4_findStall_63 : decode cX4_findStall 63 = .ok (.ifCond .ne 61, 3) := by decide +kernel
theorem dX4_findStall_66 : decode cX4_findStall 66 = .ok (.aload_n 0, 1) := by decide +kernel
theorem dX4_findStall_67 : decode cX4_findStall 67 = .ok (.getfield 51, 3) := by decide +kernel
theorem dX4_findStall_70 : decode cX4_findStall 70 = .ok (.iload_n 3, 1) := by decide +kernel
theorem dX4_findStall_71 : decode cX4_findStall 71 = .ok (.aload_n 0, 1) := by decide +kernel
theorem dX4_findStall_72 : decode cX4_findStall 72 = .ok (.getfield 47, 3) := by decide +kernel
theorem dX4_findStall_75 : decode cX4_findStall 75 = .ok (.iload_n 3, 1) := by decide +kernel
theorem dX4_findStall_76 : decode cX4_findStall 76 = .ok (.baload, 1) := by decide +kernel
theorem dX4_findStall_77 : decode cX4_findStall 77 = .ok (.ifCond .eq 12, 3) := by decide +kernel
theorem dX4_findStall_80 : decode cX4_findStall 80 = .ok (.aload_n 0, 1) := by decide +kernel
theorem dX4_findStall_81 : decode cX4_findStall 81 = .ok (.getfield 51, 3) := by decide +kernel
theorem dX4_findStall_84 : decode cX4_findStall 84 = .ok (.iload_n 3, 1) := by decide +kernel
theorem dX4_findStall_85 : decode cX4_findStall 85 = .ok (.iaload, 1) := by decide +kernel
theorem dX4_findStall_86 : decode cX4_findStall 86 = .ok (.goto 5, 3) := by decide +kernel
theorem dX4_findStall_89 : decode cX4_findStall 89 = .ok (.iload 6, 2) := by decide +kernel
theorem dX4_findStall_91 : decode cX4_findStall 91 = .ok (.iastore, 1) := by decide +kernel
theorem dX4_findStall_92 : decode cX4_findStall 92 = .ok (.aload_n 0, 1) := by decide +kernel
theorem dX4_findStall_93 : decode cX4_findStall 93 = .ok (.getfield 47, 3) := by decide +kernel
theorem dX4_findStall_96 : decode cX4_findStall 96 = .ok (.iload_n 3, 1) := by decide +kernel
theorem dX4_findStall_97 : decode cX4_findStall 97 = .ok (.baload, 1) := by decide +kernel
theorem dX4_findStall_98 : decode cX4_findStall 98 = .ok (.ifCond .eq 10, 3) := by decide +kernel
theorem dX4_findStall_101 : decode cX4_findStall 101 = .ok (.iload 7, 2) := by decide +kernel
theorem dX4_findStall_103 : decode cX4_findStall 103 = .ok (.iload 4, 2) := by decide +kernel
theorem dX4_findStall_105 : decode cX4_findStall 105 = .ok (.if_icmp .ge 8, 3) := by decide +kernel
theorem dX4_findStall_108 : decode cX4_findStall 108 = .ok (.iload 7, 2) := by decide +kernel
theorem dX4_findStall_110 : decode cX4_findStall 110 = .ok (.goto 5, 3) := by decide +kernel
theorem dX4_findStall_113 : decode cX4_findStall 113 = .ok (.iload 4, 2) := by decide +kernel
theorem dX4_findStall_115 : decode cX4_findStall 115 = .ok (.istore 4, 2) := by decide +kernel
theorem dX4_findStall_117 : decode cX4_findStall 117 = .ok (.aload_n 0, 1) := by decide +kernel
theorem dX4_findStall_118 : decode cX4_findStall 118 = .ok (.getfield 47, 3) := by decide +kernel
theorem dX4_findStall_121 : decode cX4_findStall 121 = .ok (.iload_n 3, 1) := by decide +kernel
theorem dX4_findStall_122 : decode cX4_findStall 122 = .ok (.iconst 1, 1) := by decide +kernel
theorem dX4_findStall_123 : decode cX4_findStall 123 = .ok (.bastore, 1) := by decide +kernel
theorem dX4_findStall_124 : decode cX4_findStall 124 = .ok (.iload 7, 2) := by decide +kernel
theorem dX4_findStall_126 : decode cX4_findStall 126 = .ok (.iload 5, 2) := by decide +kernel
theorem dX4_findStall_128 : decode cX4_findStall 128 = .ok (.if_icmp .le 8, 3) := by decide +kernel
theorem dX4_findStall_131 : decode cX4_findStall 131 = .ok (.iload 7, 2) := by decide +kernel
theorem dX4_findStall_133 : decode cX4_findStall 133 = .ok (.goto 5, 3) := by decide +kernel
theorem dX4_findStall_136 : decode cX4_findStall 136 = .ok (.iload 5, 2) := by decide +kernel
theorem dX4_findStall_138 : decode cX4_findStall 138 = .ok (.istore 5, 2) := by decide +kernel
theorem dX4_findStall_140 : decode cX4_findStall 140 = .ok (.iinc 6 1, 3) := by decide +kernel
theorem dX4_findStall_143 : decode cX4_findStall 143 = .ok (.goto (-112), 3) := by decide +kernel
theorem dX4_findStall_146 : decode cX4_findStall 146 = .ok (.aload_n 0, 1) := by decide +kernel
theorem dX4_findStall_147 : decode cX4_findStall 147 = .ok (.getfield 54, 3) := by decide +kernel
theorem dX4_findStall_150 : decode cX4_findStall 150 = .ok (.iload_n 3, 1) := by decide +kernel
theorem dX4_findStall_151 : decode cX4_findStall 151 = .ok (.iconst 1, 1) := by decide +kernel
theorem dX4_findStall_152 : decode cX4_findStall 152 = .ok (.aload_n 0, 1) := by decide +kernel
theorem dX4_findStall_153 : decode cX4_findStall 153 = .ok (.getfield 47, 3) := by decide +kernel
theorem dX4_findStall_156 : decode cX4_findStall 156 = .ok (.iload_n 3, 1) := by decide +kernel
theorem dX4_findStall_157 : decode cX4_findStall 157 = .ok (.baload, 1) := by decide +kernel
theorem dX4_findStall_158 : decode cX4_findStall 158 = .ok (.ifCond .eq 8, 3) := by decide +kernel
theorem dX4_findStall_161 : decode cX4_findStall 161 = .ok (.iload 4, 2) := by decide +kernel
theorem dX4_findStall_163 : decode cX4_findStall 163 = .ok (.goto 5, 3) := by decide +kernel
theorem dX4_findStall_166 : decode cX4_findStall 166 = .ok (.iload 5, 2) := by decide +kernel
theorem dX4_findStall_168 : decode cX4_findStall 168 = .ok (.iadd, 1) := by decide +kernel
theorem dX4_findStall_169 : decode cX4_findStall 169 = .ok (.iastore, 1) := by decide +kernel
theorem dX4_findStall_170 : decode cX4_findStall 170 = .ok (.iinc 3 1, 3) := by decide +kernel
theorem dX4_findStall_173 : decode cX4_findStall 173 = .ok (.goto (-171), 3) := by decide +kernel
theorem dX4_findStall_176 : decode cX4_findStall 176 = .ok (.return_, 1) := by decide +kernel
set_option maxRecDepth 20000 in
theorem ggX4_stall_X4_floatsBy : GoodIn wsX4_stall wsX4_floatsBy := goodIn_r _ [10, 11, 20, 21, 22, 23, 24, 25, 26, 27, 28, 29, 30, 31, 32, 33, 34, 35, 36, 37, 38, 39, 40, 41, 42, 43, 44, 45, 46, 47, 48, 49, 50, 51, 52, 53] (by decide +kernel) (by decide +kernel)
set_option maxRecDepth 20000 in
theorem gX4_stall_X4_floatsBy : GoodIn wsX4_stall (wsV RX4 132 RX4 yX4_floatsBy wsX4_floatsBy) := goodIn_app (goodIn_of _ (by decide +kernel)) ggX4_stall_X4_floatsBy
set_option maxRecDepth 20000 in
theorem ggX4_stall_X4_in : GoodIn wsX4_stall wsX4_in := goodIn_r _ [14] (by decide +kernel) (by decide +kernel)
set_option maxRecDepth 20000 in
theorem gX4_stall_X4_in : GoodIn wsX4_stall (va_wsS RX4 72 yX4_in wsX4_in) := goodIn_app (goodIn_of _ (by decide +kernel)) ggX4_stall_X4_in
set_option maxRecDepth 20000 in
theorem ggX4_stall_X4_findStall : GoodIn wsX4_stall wsX4_findStall := goodIn_r _ [18, 19, 4, 5, 20, 21, 22, 23, 24, 25, 26, 27, 28, 29, 30, 31, 32, 33, 34, 35, 36, 37, 38, 39, 40, 41, 42, 43, 44, 45, 46, 47, 48, 49, 50, 51, 52, 53] (by decide +kernel) (by decide +kernel)
set_option maxRecDepth 20000 in
theorem gX4_stall_X4_findStall : GoodIn wsX4_stall (wsV RX4 185 RX4 yX4_findStall wsX4_findStall) := goodIn_app (goodIn_of _ (by decide +kernel)) ggX4_stall_X4_findStall
theorem dX4_stall_0 : decode cX4_stall 0 = .ok (.aload_n 0, 1) := by decide +kernel
theorem dX4_stall_1 : decode cX4_stall 1 = .ok (.aload_n 0, 1) := by decide +kernel
theorem dX4_stall_2 : decode cX4_stall 2 = .ok (.getfield 63, 3) := by decide +kernel
theorem dX4_stall_5 : decode cX4_stall 5 = .ok (.aload_n 0, 1) := by decide +kernel
theorem dX4_stall_6 : decode cX4_stall 6 = .ok (.getfield 67, 3) := by decide +kernel
theorem dX4_stall_9 : decode cX4_stall 9 = .ok (.invokevirtual 132, 3) := by decide +kernel
theorem dX4_stall_12 : decode cX4_stall 12 = .ok (.istore 4, 2) := by decide +kernel
theorem dX4_stall_14 : decode cX4_stall 14 = .ok (.iload_n 1, 1) := by decide +kernel
theorem dX4_stall_15 : decode cX4_stall 15 = .ok (.i2l, 1) := by decide +kernel
theorem dX4_stall_16 : decode cX4_stall 16 = .ok (.lconst 0, 1) := by decide +kernel
theorem dX4_stall_17 : decode cX4_stall 17 = .ok (.iload 4, 2) := by decide +kernel
theorem dX4_stall_19 : decode cX4_stall 19 = .ok (.i2l, 1) := by decide +kernel
theorem dX4_stall_20 : decode cX4_stall 20 = .ok (.invokestatic 72, 3) := by decide +kernel
theorem dX4_stall_23 : decode cX4_stall 23 = .ok (.ifCond .eq 25, 3) := by decide +kernel
theorem dX4_stall_26 : decode cX4_stall 26 = .ok (.iload_n 2, 1) := by decide +kernel
theorem dX4_stall_27 : decode cX4_stall 27 = .ok (.i2l, 1) := by decide +kernel
theorem dX4_stall_28 : decode cX4_stall 28 = .ok (.lconst 1, 1) := by decide +kernel
theorem dX4_stall_29 : decode cX4_stall 29 = .ok (.ldc2_w 183, 3) := by decide +kernel
theorem dX4_stall_32 : decode cX4_stall 32 = .ok (.invokestatic 72, 3) := by decide +kernel
theorem dX4_stall_35 : decode cX4_stall 35 = .ok (.ifCond .eq 13, 3) := by decide +kernel
theorem dX4_stall_38 : decode cX4_stall 38 = .ok (.iload_n 3, 1) := by decide +kernel
theorem dX4_stall_39 : decode cX4_stall 39 = .ok (.i2l, 1) := by decide +kernel
theorem dX4_stall_40 : decode cX4_stall 40 = .ok (.lconst 0, 1) := by decide +kernel
theorem dX4_stall_41 : decode cX4_stall 41 = .ok (.lconst 1, 1) := by decide +kernel
theorem dX4_stall_42 : decode cX4_stall 42 = .ok (.invokestatic 72, 3) := by decide +kernel
theorem dX4_stall_45 : decode cX4_stall 45 = .ok (.ifCond .ne 6, 3) := by decide +kernel
theorem dX4_stall_48 : decode cX4_stall 48 = .ok (.bipush (-2), 2) := by decide +kernel
theorem dX4_stall_50 : decode cX4_stall 50 = .ok (.ireturn, 1) := by decide +kernel
theorem dX4_stall_51 : decode cX4_stall 51 = .ok (.iload 4, 2) := by decide +kernel
theorem dX4_stall_53 : decode cX4_stall 53 = .ok (.iload_n 1, 1) := by decide +kernel
theorem dX4_stall_54 : decode cX4_stall 54 = .ok (.isub, 1) := by decide +kernel
theorem dX4_stall_55 : decode cX4_stall 55 = .ok (.bipush 10, 2) := by decide +kernel
theorem dX4_stall_57 : decode cX4_stall 57 = .ok (.idiv, 1) := by decide +kernel
theorem dX4_stall_58 : decode cX4_stall 58 = .ok (.istore 5, 2) := by decide +kernel
theorem dX4_stall_60 : decode cX4_stall 60 = .ok (.aload_n 0, 1) := by decide +kernel
theorem dX4_stall_61 : decode cX4_stall 61 = .ok (.iload 5, 2) := by decide +kernel
theorem dX4_stall_63 : decode cX4_stall 63 = .ok (.iload_n 2, 1) := by decide +kernel
theorem dX4_stall_64 : decode cX4_stall 64 = .ok (.invokevirtual 185, 3) := by decide +kernel
theorem dX4_stall_67 : decode cX4_stall 67 = .ok (.iload_n 3, 1) := by decide +kernel
theorem dX4_stall_68 : decode cX4_stall 68 = .ok (.ifCond .ne 13, 3) := by decide +kernel
theorem dX4_stall_71 : decode cX4_stall 71 = .ok (.aload_n 0, 1) := by decide +kernel
theorem dX4_stall_72 : decode cX4_stall 72 = .ok (.getfield 51, 3) := by decide +kernel
theorem dX4_stall_75 : decode cX4_stall 75 = .ok (.iload 5, 2) := by decide +kernel
theorem dX4_stall_77 : decode cX4_stall 77 = .ok (.iaload, 1) := by decide +kernel
theorem dX4_stall_78 : decode cX4_stall 78 = .ok (.goto 10, 3) := by decide +kernel
theorem dX4_stall_81 : decode cX4_stall 81 = .ok (.aload_n 0, 1) := by decide +kernel
theorem dX4_stall_82 : decode cX4_stall 82 = .ok (.getfield 54, 3) := by decide +kernel
theorem dX4_stall_85 : decode cX4_stall 85 = .ok (.iload 5, 2) := by decide +kernel
theorem dX4_stall_87 : decode cX4_stall 87 = .ok (.iaload, 1) := by decide +kernel
theorem dX4_stall_88 : decode cX4_stall 88 = .ok (.ireturn, 1) := by decide +kernel
theorem dX4_lowest_0 : decode cX4_lowest 0 = .ok (.lload_n 2, 1) := by decide +kernel
theorem dX4_lowest_1 : decode cX4_lowest 1 = .ok (.lstore 5, 2) := by decide +kernel
theorem dX4_lowest_3 : decode cX4_lowest 3 = .ok (.lload_n 0, 1) := by decide +kernel
theorem dX4_lowest_4 : decode cX4_lowest 4 = .ok (.lstore 7, 2) := by decide +kernel
theorem dX4_lowest_6 : decode cX4_lowest 6 = .ok (.lload 7, 2) := by decide +kernel
theorem dX4_lowest_8 : decode cX4_lowest 8 = .ok (.lconst 0, 1) := by decide +kernel
theorem dX4_lowest_9 : decode cX4_lowest 9 = .ok (.lcmp, 1) := by decide +kernel
theorem dX4_lowest_10 : decode cX4_lowest 10 = .ok (.ifCond .eq 21, 3) := by decide +kernel
theorem dX4_lowest_13 : decode cX4_lowest 13 = .ok (.lload 5, 2) := by decide +kernel
theorem dX4_lowest_15 : decode cX4_lowest 15 = .ok (.lload 7, 2) := by decide +kernel
theorem dX4_lowest_17 : decode cX4_lowest 17 = .ok (.lrem, 1) := by decide +kernel
theorem dX4_lowest_18 : decode cX4_lowest 18 = .ok (.lstore 9, 2) := by decide +kernel
theorem dX4_lowest_20 : decode cX4_lowest 20 = .ok (.lload 7, 2) := by decide +kernel
theorem dX4_lowest_22 : decode cX4_lowest 22 = .ok (.lstore 5, 2) := by decide +kernel
theorem dX4_lowest_24 : decode cX4_lowest 24 = .ok (.lload 9, 2) := by decide +kernel
theorem dX4_lowest_26 : decode cX4_lowest 26 = .ok (.lstore 7, 2) := by decide +kernel
theorem dX4_lowest_28 : decode cX4_lowest 28 = .ok (.goto (-22), 3) := by decide +kernel
theorem dX4_lowest_31 : decode cX4_lowest 31 = .ok (.iload 4, 2) := by decide +kernel
theorem dX4_lowest_33 : decode cX4_lowest 33 = .ok (.ifCond .ne 10, 3) := by decide +kernel
theorem dX4_lowest_36 : decode cX4_lowest 36 = .ok (.lload_n 0, 1) := by decide +kernel
theorem dX4_lowest_37 : decode cX4_lowest 37 = .ok (.lload 5, 2) := by decide +kernel
theorem dX4_lowest_39 : decode cX4_lowest 39 = .ok (.ldiv, 1) := by decide +kernel
theorem dX4_lowest_40 : decode cX4_lowest 40 = .ok (.goto 7, 3) := by decide +kernel
theorem dX4_lowest_43 : decode cX4_lowest 43 = .ok (.lload_n 2, 1) := by decide +kernel
theorem dX4_lowest_44 : decode cX4_lowest 44 = .ok (.lload 5, 2) := by decide +kernel
theorem dX4_lowest_46 : decode cX4_lowest 46 = .ok (.ldiv, 1) := by decide +kernel
theorem dX4_lowest_47 : decode cX4_lowest 47 = .ok (.lreturn, 1) := by decide +kernel
set_option maxRecDepth 20000 in
theorem ggX4_areOdds_X4_in : GoodIn wsX4_areOdds wsX4_in := goodIn_r _ [6] (by decide +kernel) (by decide +kernel)
set_option maxRecDepth 20000 in
theorem gX4_areOdds_X4_in : GoodIn wsX4_areOdds (va_wsS RX4 72 yX4_in wsX4_in) := goodIn_app (goodIn_of _ (by decide +kernel)) ggX4_areOdds_X4_in
theorem dX4_areOdds_0 : decode cX4_areOdds 0 = .ok (.iload_n 0, 1) := by decide +kernel
theorem dX4_areOdds_1 : decode cX4_areOdds 1 = .ok (.i2l, 1) := by decide +kernel
theorem dX4_areOdds_2 : decode cX4_areOdds 2 = .ok (.lconst 0, 1) := by decide +kernel
theorem dX4_areOdds_3 : decode cX4_areOdds 3 = .ok (.ldc2_w 189, 3) := by decide +kernel
theorem dX4_areOdds_6 : decode cX4_areOdds 6 = .ok (.invokestatic 72, 3) := by decide +kernel
theorem dX4_areOdds_9 : decode cX4_areOdds 9 = .ok (.ifCond .eq 29, 3) := by decide +kernel
theorem dX4_areOdds_12 : decode cX4_areOdds 12 = .ok (.iload_n 1, 1) := by decide +kernel
theorem dX4_areOdds_13 : decode cX4_areOdds 13 = .ok (.i2l, 1) := by decide +kernel
theorem dX4_areOdds_14 : decode cX4_areOdds 14 = .ok (.lconst 0, 1) := by decide +kernel
theorem dX4_areOdds_15 : decode cX4_areOdds 15 = .ok (.ldc2_w 191, 3) := by decide +kernel
theorem dX4_areOdds_18 : decode cX4_areOdds 18 = .ok (.invokestatic 72, 3) := by decide +kernel
theorem dX4_areOdds_21 : decode cX4_areOdds 21 = .ok (.ifCond .eq 17, 3) := by decide +kernel
theorem dX4_areOdds_24 : decode cX4_areOdds 24 = .ok (.iload_n 2, 1) := by decide +kernel
theorem dX4_areOdds_25 : decode cX4_areOdds 25 = .ok (.i2l, 1) := by decide +kernel
theorem dX4_areOdds_26 : decode cX4_areOdds 26 = .ok (.lconst 0, 1) := by decide +kernel
theorem dX4_areOdds_27 : decode cX4_areOdds 27 = .ok (.lconst 1, 1) := by decide +kernel
theorem dX4_areOdds_28 : decode cX4_areOdds 28 = .ok (.invokestatic 72, 3) := by decide +kernel
theorem dX4_areOdds_31 : decode cX4_areOdds 31 = .ok (.ifCond .eq 7, 3) := by decide +kernel
theorem dX4_areOdds_34 : decode cX4_areOdds 34 = .ok (.iconst 1, 1) := by decide +kernel
theorem dX4_areOdds_35 : decode cX4_areOdds 35 = .ok (.goto 4, 3) := by decide +kernel
theorem dX4_areOdds_38 : decode cX4_areOdds 38 = .ok (.iconst 0, 1) := by decide +kernel
theorem dX4_areOdds_39 : decode cX4_areOdds 39 = .ok (.ireturn, 1) := by decide +kernel
set_option maxRecDepth 20000 in
theorem ggX4_layLonger_X4_layNow : GoodIn wsX4_layLonger wsX4_layNow := goodIn_r _ [7, 8, 9, 2, 1, 10, 11, 12, 13, 14, 15, 16, 6, 17, 18, 19, 20, 21, 22, 23, 24, 25, 26, 27, 28, 29, 30, 31, 32, 33, 34, 35, 36, 37, 38, 39, 40, 41, 42, 43, 44, 45, 46, 47, 48, 49, 50, 51, 52, 53, 54, 55, 56, 57] (by decide +kernel) (by decide +kernel)
set_option maxRecDepth 20000 in
theorem gX4_layLonger_X4_layNow : GoodIn wsX4_layLonger (wsV RX4 152 RX4 yX4_layNow wsX4_layNow) := goodIn_app (goodIn_of _ (by decide +kernel)) ggX4_layLonger_X4_layNow
theorem dX4_layLonger_0 : decode cX4_layLonger 0 = .ok (.aload_n 0, 1) := by decide +kernel
theorem dX4_layLonger_1 : decode cX4_layLonger 1 = .ok (.invokevirtual 152, 3) := by decide +kernel
theorem dX4_layLonger_4 : decode cX4_layLonger 4 = .ok (.lconst 1, 1) := by decide +kernel
theorem dX4_layLonger_5 : decode cX4_layLonger 5 = .ok (.lstore 4, 2) := by decide +kernel
theorem dX4_layLonger_7 : decode cX4_layLonger 7 = .ok (.iconst 0, 1) := by decide +kernel
theorem dX4_layLonger_8 : decode cX4_layLonger 8 = .ok (.istore 6, 2) := by decide +kernel
theorem dX4_layLonger_10 : decode cX4_layLonger 10 = .ok (.iload 6, 2) := by decide +kernel
theorem dX4_layLonger_12 : decode cX4_layLonger 12 = .ok (.aload_n 0, 1) := by decide +kernel
theorem dX4_layLonger_13 : decode cX4_layLonger 13 = .ok (.getfield 113, 3) := by decide +kernel
theorem dX4_layLonger_16 : decode cX4_layLonger 16 = .ok (.if_icmp .ge 63, 3) := by decide +kernel
theorem dX4_layLonger_19 : decode cX4_layLonger 19 = .ok (.iload_n 1, 1) := by decide +kernel
theorem dX4_layLonger_20 : decode cX4_layLonger 20 = .ok (.iload 6, 2) := by decide +kernel
theorem dX4_layLonger_22 : decode cX4_layLonger 22 = .ok (.ishr, 1) := by decide +kernel
theorem dX4_layLonger_23 : decode cX4_layLonger 23 = .ok (.iconst 1, 1) := by decide +kernel
theorem dX4_layLonger_24 : decode cX4_layLonger 24 = .ok (.iand, 1) := by decide +kernel
theorem dX4_layLonger_25 : decode cX4_layLonger 25 = .ok (.iconst 1, 1) := by decide +kernel
theorem dX4_layLonger_26 : decode cX4_layLonger 26 = .ok (.if_icmp .ne 7, 3) := by decide +kernel
theorem dX4_layLonger_29 : decode cX4_layLonger 29 = .ok (.iconst 1, 1) := by decide +kernel
theorem dX4_layLonger_30 : decode cX4_layLonger 30 = .ok (.goto 4, 3) := by decide +kernel
theorem dX4_layLonger_33 : decode cX4_layLonger 33 = .ok (.iconst 0, 1) := by decide +kernel
theorem dX4_layLonger_34 : decode cX4_layLonger 34 = .ok (.istore 7, 2) := by decide +kernel
theorem dX4_layLonger_36 : decode cX4_layLonger 36 = .ok (.aload_n 0, 1) := by decide +kernel
theorem dX4_layLonger_37 : decode cX4_layLonger 37 = .ok (.getfield 37, 3) := by decide +kernel
theorem dX4_layLonger_40 : decode cX4_layLonger 40 = .ok (.iload 6, 2) := by decide +kernel
theorem dX4_layLonger_42 : decode cX4_layLonger 42 = .ok (.iload 7, 2) := by decide +kernel
theorem dX4_layLonger_44 : decode cX4_layLonger 44 = .ok (.ifCond .eq 7, 3) := by decide +kernel
theorem dX4_layLonger_47 : decode cX4_layLonger 47 = .ok (.iload_n 2, 1) := by decide +kernel
theorem dX4_layLonger_48 : decode cX4_layLonger 48 = .ok (.goto 4, 3) := by decide +kernel
theorem dX4_layLonger_51 : decode cX4_layLonger 51 = .ok (.iconst 0, 1) := by decide +kernel
theorem dX4_layLonger_52 : decode cX4_layLonger 52 = .ok (.iastore, 1) := by decide +kernel
theorem dX4_layLonger_53 : decode cX4_layLonger 53 = .ok (.lload 4, 2) := by decide +kernel
theorem dX4_layLonger_55 : decode cX4_layLonger 55 = .ok (.iload 7, 2) := by decide +kernel
theorem dX4_layLonger_57 : decode cX4_layLonger 57 = .ok (.ifCond .eq 8, 3) := by decide +kernel
theorem dX4_layLonger_60 : decode cX4_layLonger 60 = .ok (.iload_n 3, 1) := by decide +kernel
theorem dX4_layLonger_61 : decode cX4_layLonger 61 = .ok (.i2l, 1) := by decide +kernel
theorem dX4_layLonger_62 : decode cX4_layLonger 62 = .ok (.goto 8, 3) := by decide +kernel
theorem dX4_layLonger_65 : decode cX4_layLonger 65 = .ok (.bipush 10, 2) := by decide +kernel
theorem dX4_layLonger_67 : decode cX4_layLonger 67 = .ok (.iload_n 3, 1) := by decide +kernel
theorem dX4_layLonger_68 : decode cX4_layLonger 68 = .ok (.isub, 1) := by decide +kernel
theorem dX4_layLonger_69 : decode cX4_layLonger 69 = .ok (.i2l, 1) := by decide +kernel
theorem dX4_layLonger_70 : decode cX4_layLonger 70 = .ok (.lmul, 1) := by decide +kernel
theorem dX4_layLonger_71 : decode cX4_layLonger 71 = .ok (.lstore 4, 2) := by decide +kernel
theorem dX4_layLonger_73 : decode cX4_layLonger 73 = .ok (.iinc 6 1, 3) := by decide +kernel
theorem dX4_layLonger_76 : decode cX4_layLonger 76 = .ok (.goto (-66), 3) := by decide +kernel
theorem dX4_layLonger_79 : decode cX4_layLonger 79 = .ok (.lload 4, 2) := by decide +kernel
theorem dX4_layLonger_81 : decode cX4_layLonger 81 = .ok (.lreturn, 1) := by decide +kernel
theorem dX4_wasDecided_0 : decode cX4_wasDecided 0 = .ok (.iconst 0, 1) := by decide +kernel
theorem dX4_wasDecided_1 : decode cX4_wasDecided 1 = .ok (.istore_n 2, 1) := by decide +kernel
theorem dX4_wasDecided_2 : decode cX4_wasDecided 2 = .ok (.iconst 0, 1) := by decide +kernel
theorem dX4_wasDecided_3 : decode cX4_wasDecided 3 = .ok (.istore_n 3, 1) := by decide +kernel
theorem dX4_wasDecided_4 : decode cX4_wasDecided 4 = .ok (.iload_n 3, 1) := by decide +kernel
theorem dX4_wasDecided_5 : decode cX4_wasDecided 5 = .ok (.aload_n 0, 1) := by decide +kernel
theorem dX4_wasDecided_6 : decode cX4_wasDecided 6 = .ok (.getfield 142, 3) := by decide +kernel
theorem dX4_wasDecided_9 : decode cX4_wasDecided 9 = .ok (.if_icmp .ge 29, 3) := by decide +kernel
theorem dX4_wasDecided_12 : decode cX4_wasDecided 12 = .ok (.iload_n 2, 1) := by decide +kernel
theorem dX4_wasDecided_13 : decode cX4_wasDecided 13 = .ok (.ifCond .ne 13, 3) := by decide +kernel
theorem dX4_wasDecided_16 : decode cX4_wasDecided 16 = .ok (.aload_n 0, 1) := by decide +kernel
theorem dX4_wasDecided_17 : decode cX4_wasDecided 17 = .ok (.getfield 34, 3) := by decide +kernel
theorem dX4_wasDecided_20 : decode cX4_wasDecided 20 = .ok (.iload_n 3, 1) := by decide +kernel
theorem dX4_wasDecided_21 : decode cX4_wasDecided 21 = .ok (.iaload, 1) := by decide +kernel
theorem dX4_wasDecided_22 : decode cX4_wasDecided 22 = .ok (.iload_n 1, 1) := by decide +kernel
theorem dX4_wasDecided_23 : decode cX4_wasDecided 23 = .ok (.if_icmp .ne 7, 3) := by decide +kernel
theorem dX4_wasDecided_26 : decode cX4_wasDecided 26 = .ok (.iconst 1, 1) := by decide +kernel
theorem dX4_wasDecided_27 : decode cX4_wasDecided 27 = .ok (.goto 4, 3) := by decide +kernel
theorem dX4_wasDecided_30 : decode cX4_wasDecided 30 = .ok (.iconst 0, 1) := by decide +kernel
theorem dX4_wasDecided_31 : decode cX4_wasDecided 31 = .ok (.istore_n 2, 1) := by decide +kernel
theorem dX4_wasDecided_32 : decode cX4_wasDecided 32 = .ok (.iinc 3 1, 3) := by decide +kernel
theorem dX4_wasDecided_35 : decode cX4_wasDecided 35 = .ok (.goto (-31), 3) := by decide +kernel
theorem dX4_wasDecided_38 : decode cX4_wasDecided 38 = .ok (.iload_n 2, 1) := by decide +kernel
theorem dX4_wasDecided_39 : decode cX4_wasDecided 39 = .ok (.ireturn, 1) := by decide +kernel
theorem dX4_allWays_0 : decode cX4_allWays 0 = .ok (.lconst 1, 1) := by decide +kernel
theorem dX4_allWays_1 : decode cX4_allWays 1 = .ok (.lstore_n 1, 1) := by decide +kernel
theorem dX4_allWays_2 : decode cX4_allWays 2 = .ok (.iconst 0, 1) := by decide +kernel
theorem dX4_allWays_3 : decode cX4_allWays 3 = .ok (.istore_n 3, 1) := by decide +kernel
theorem dX4_allWays_4 : decode cX4_allWays 4 = .ok (.iload_n 3, 1) := by decide +kernel
theorem dX4_allWays_5 : decode cX4_allWays 5 = .ok (.aload_n 0, 1) := by decide +kernel
theorem dX4_allWays_6 : decode cX4_allWays 6 = .ok (.getfield 113, 3) := by decide +kernel
theorem dX4_allWays_9 : decode cX4_allWays 9 = .ok (.if_icmp .ge 15, 3) := by decide +kernel
theorem dX4_allWays_12 : decode cX4_allWays 12 = .ok (.lload_n 1, 1) := by decide +kernel
theorem dX4_allWays_13 : decode cX4_allWays 13 = .ok (.ldc2_w 191, 3) := by decide +kernel
theorem dX4_allWays_16 : decode cX4_allWays 16 = .ok (.lmul, 1) := by decide +kernel
theorem dX4_allWays_17 : decode cX4_allWays 17 = .ok (.lstore_n 1, 1) := by decide +kernel
theorem dX4_allWays_18 : decode cX4_allWays 18 = .ok (.iinc 3 1, 3) := by decide +kernel
theorem dX4_allWays_21 : decode cX4_allWays 21 = .ok (.goto (-17), 3) := by decide +kernel
theorem dX4_allWays_24 : decode cX4_allWays 24 = .ok (.lload_n 1, 1) := by decide +kernel
theorem dX4_allWays_25 : decode cX4_allWays 25 = .ok (.lreturn, 1) := by decide +kernel
set_option maxRecDepth 20000 in
theorem ggX4_likely_X4_isSuit : GoodIn wsX4_likely wsX4_isSuit := goodIn_r _ [8, 3, 9, 10, 7, 11, 68, 69, 70, 71, 72, 73, 74, 75, 76, 77, 78, 79, 80, 81, 82, 83, 84, 85, 86, 87, 88, 89, 90, 91, 92, 93, 94, 95, 96, 97, 98, 99, 100, 101] (by decide +kernel) (by decide +kernel)
set_option maxRecDepth 20000 in
theorem gX4_likely_X4_isSuit : GoodIn wsX4_likely (wsV RX4 116 RX4 yX4_isSuit wsX4_isSuit) := goodIn_app (goodIn_of _ (by decide +kernel)) ggX4_likely_X4_isSuit
set_option maxRecDepth 20000 in
theorem ggX4_likely_X4_areOdds : GoodIn wsX4_likely wsX4_areOdds := goodIn_r _ [14, 15, 16, 9, 10, 7, 11] (by decide +kernel) (by decide +kernel)
set_option maxRecDepth 20000 in
theorem gX4_likely_X4_areOdds : GoodIn wsX4_likely (va_wsS RX4 195 yX4_areOdds wsX4_areOdds) := goodIn_app (goodIn_of _ (by decide +kernel)) ggX4_likely_X4_areOdds
set_option maxRecDepth 20000 in
theorem ggX4_likely_X4_layLonger : GoodIn wsX4_likely wsX4_layLonger := goodIn_r _ [20, 3, 21, 22, 23, 24, 7, 25, 26, 27, 28, 29, 30, 31, 32, 33, 34, 35, 36, 37, 38, 39, 40, 41, 68, 69, 70, 71, 72, 73, 74, 75, 76, 77, 78, 79, 80, 81, 82, 83, 84, 85, 86, 87, 88, 89, 90, 91, 92, 93, 94, 95, 96, 97, 98, 99, 100, 101] (by decide +kernel) (by decide +kernel)
set_option maxRecDepth 20000 in
theorem gX4_likely_X4_layLonger : GoodIn wsX4_likely (wsV RX4 201 RX4 yX4_layLonger wsX4_layLonger) := goodIn_app (goodIn_of _ (by decide +kernel)) ggX4_likely_X4_layLonger
set_option maxRecDepth 20000 in
theorem ggX4_likely_X4_plead : GoodIn wsX4_likely wsX4_plead := goodIn_r _ [45, 46, 47, 28, 26, 31, 41, 48, 49, 50, 51, 52, 53, 7, 54, 55, 56, 21, 68, 69, 70, 71, 72, 73, 74, 75, 76, 77, 78, 79, 80, 81, 82, 83, 84, 85, 86, 87, 88, 89, 90, 91, 92, 93, 94, 95, 96, 97, 98, 99, 100, 101] (by decide +kernel) (by decide +kernel)
set_option maxRecDepth 20000 in
theorem gX4_likely_X4_plead : GoodIn wsX4_likely (wsV RX4 155 RX4 yX4_plead wsX4_plead) := goodIn_app (goodIn_of _ (by decide +kernel)) ggX4_likely_X4_plead
set_option maxRecDepth 20000 in
theorem ggX4_likely_X4_wasDecided : GoodIn wsX4_likely wsX4_wasDecided := goodIn_r _ [60, 46, 26, 68, 69, 70, 71, 72, 73, 74, 75, 76, 77, 78, 79, 80, 81, 82, 83, 84, 85, 86, 87, 88, 89, 90, 91, 92, 93, 94, 95, 96, 97, 98, 99, 100, 101] (by decide +kernel) (by decide +kernel)
set_option maxRecDepth 20000 in
theorem gX4_likely_X4_wasDecided : GoodIn wsX4_likely (wsV RX4 205 RX4 yX4_wasDecided wsX4_wasDecided) := goodIn_app (goodIn_of _ (by decide +kernel)) ggX4_likely_X4_wasDecided
set_option maxRecDepth 20000 in
theorem ggX4_likely_X4_allWays : GoodIn wsX4_likely wsX4_allWays := goodIn_r _ [64, 3, 16, 68, 69, 70, 71, 72, 73, 74, 75, 76, 77, 78, 79, 80, 81, 82, 83, 84, 85, 86, 87, 88, 89, 90, 91, 92, 93, 94, 95, 96, 97, 98, 99, 100, 101] (by decide +kernel) (by decide +kernel)
set_option maxRecDepth 20000 in
theorem gX4_likely_X4_allWays : GoodIn wsX4_likely (wsV RX4 208 RX4 yX4_allWays wsX4_allWays) := goodIn_app (goodIn_of _ (by decide +kernel)) ggX4_likely_X4_allWays
set_option maxRecDepth 20000 in
theorem ggX4_likely_X4_lowest : GoodIn wsX4_likely wsX4_lowest := goodIn_r _ [67] (by decide +kernel) (by decide +kernel)
set_option maxRecDepth 20000 in
theorem gX4_likely_X4_lowest : GoodIn wsX4_likely (va_wsS RX4 212 yX4_lowest wsX4_lowest) := goodIn_app (goodIn_of _ (by decide +kernel)) ggX4_likely_X4_lowest
theorem dX4_likely_0 : decode cX4_likely 0 = .ok (.aload_n 0, 1) := by decide +kernel
theorem dX4_likely_1 : decode cX4_likely 1 = .ok (.iload_n 1, 1) := by decide +kernel
theorem dX4_likely_2 : decode cX4_likely 2 = .ok (.invokevirtual 116, 3) := by decide +kernel
theorem dX4_likely_5 : decode cX4_likely 5 = .ok (.ifCond .ne 7, 3) := by decide +kernel
theorem dX4_likely_8 : decode cX4_likely 8 = .ok (.ldc2_w 193, 3) := by decide +kernel
theorem dX4_likely_11 : decode cX4_likely 11 = .ok (.lreturn, 1) := by decide +kernel
theorem dX4_likely_12 : decode cX4_likely 12 = .ok (.iload_n 2, 1) := by decide +kernel
theorem dX4_likely_13 : decode cX4_likely 13 = .ok (.iload_n 3, 1) := by decide +kernel
theorem dX4_likely_14 : decode cX4_likely 14 = .ok (.iload 4, 2) := by decide +kernel
theorem dX4_likely_16 : decode cX4_likely 16 = .ok (.invokestatic 195, 3) := by decide +kernel
theorem dX4_likely_19 : decode cX4_likely 19 = .ok (.ifCond .ne 7, 3) := by decide +kernel
theorem dX4_likely_22 : decode cX4_likely 22 = .ok (.ldc2_w 199, 3) := by decide +kernel
theorem dX4_likely_25 : decode cX4_likely 25 = .ok (.lreturn, 1) := by decide +kernel
theorem dX4_likely_26 : decode cX4_likely 26 = .ok (.lconst 0, 1) := by decide +kernel
theorem dX4_likely_27 : decode cX4_likely 27 = .ok (.lstore 5, 2) := by decide +kernel
theorem dX4_likely_29 : decode cX4_likely 29 = .ok (.iconst 0, 1) := by decide +kernel
theorem dX4_likely_30 : decode cX4_likely 30 = .ok (.istore 7, 2) := by decide +kernel
theorem dX4_likely_32 : decode cX4_likely 32 = .ok (.iload 7, 2) := by decide +kernel
theorem dX4_likely_34 : decode cX4_likely 34 = .ok (.iconst 1, 1) := by decide +kernel
theorem dX4_likely_35 : decode cX4_likely 35 = .ok (.aload_n 0, 1) := by decide +kernel
theorem dX4_likely_36 : decode cX4_likely 36 = .ok (.getfield 113, 3) := by decide +kernel
theorem dX4_likely_39 : decode cX4_likely 39 = .ok (.ishl, 1) := by decide +kernel
theorem dX4_likely_40 : decode cX4_likely 40 = .ok (.if_icmp .ge 42, 3) := by decide +kernel
theorem dX4_likely_43 : decode cX4_likely 43 = .ok (.aload_n 0, 1) := by decide +kernel
theorem dX4_likely_44 : decode cX4_likely 44 = .ok (.iload 7, 2) := by decide +kernel
theorem dX4_likely_46 : decode cX4_likely 46 = .ok (.iload_n 2, 1) := by decide +kernel
theorem dX4_likely_47 : decode cX4_likely 47 = .ok (.iload_n 3, 1) := by decide +kernel
theorem dX4_likely_48 : decode cX4_likely 48 = .ok (.invokevirtual 201, 3) := by decide +kernel
theorem dX4_likely_51 : decode cX4_likely 51 = .ok (.lstore 8, 2) := by decide +kernel
theorem dX4_likely_53 : decode cX4_likely 53 = .ok (.aload_n 0, 1) := by decide +kernel
theorem dX4_likely_54 : decode cX4_likely 54 = .ok (.invokevirtual 155, 3) := by decide +kernel
theorem dX4_likely_57 : decode cX4_likely 57 = .ok (.lload 5, 2) := by decide +kernel
theorem dX4_likely_59 : decode cX4_likely 59 = .ok (.aload_n 0, 1) := by decide +kernel
theorem dX4_likely_60 : decode cX4_likely 60 = .ok (.iload_n 1, 1) := by decide +kernel
theorem dX4_likely_61 : decode cX4_likely 61 = .ok (.invokevirtual 205, 3) := by decide +kernel
theorem dX4_likely_64 : decode cX4_likely 64 = .ok (.ifCond .eq 8, 3) := by decide +kernel
theorem dX4_likely_67 : decode cX4_likely 67 = .ok (.lload 8, 2) := by decide +kernel
theorem dX4_likely_69 : decode cX4_likely 69 = .ok (.goto 4, 3) := by decide +kernel
theorem dX4_likely_72 : decode cX4_likely 72 = .ok (.lconst 0, 1) := by decide +kernel
theorem dX4_likely_73 : decode cX4_likely 73 = .ok (.ladd, 1) := by decide +kernel
theorem dX4_likely_74 : decode cX4_likely 74 = .ok (.lstore 5, 2) := by decide +kernel
theorem dX4_likely_76 : decode cX4_likely 76 = .ok (.iinc 7 1, 3) := by decide +kernel
theorem dX4_likely_79 : decode cX4_likely 79 = .ok (.goto (-47), 3) := by decide +kernel
theorem dX4_likely_82 : decode cX4_likely 82 = .ok (.lload 5, 2) := by decide +kernel
theorem dX4_likely_84 : decode cX4_likely 84 = .ok (.aload_n 0, 1) := by decide +kernel
theorem dX4_likely_85 : decode cX4_likely 85 = .ok (.invokevirtual 208, 3) := by decide +kernel
theorem dX4_likely_88 : decode cX4_likely 88 = .ok (.iload 4, 2) := by decide +kernel
theorem dX4_likely_90 : decode cX4_likely 90 = .ok (.invokestatic 212, 3) := by decide +kernel
theorem dX4_likely_93 : decode cX4_likely 93 = .ok (.lreturn, 1) := by decide +kernel
set_option maxRecDepth 20000 in
theorem ggX4_mean_X4_isSide : GoodIn wsX4_mean wsX4_isSide := goodIn_r _ [7, 8, 9, 10, 6, 11] (by decide +kernel) (by decide +kernel)
set_option maxRecDepth 20000 in
theorem gX4_mean_X4_isSide : GoodIn wsX4_mean (va_wsS RX4 169 yX4_isSide wsX4_isSide) := goodIn_app (goodIn_of _ (by decide +kernel)) ggX4_mean_X4_isSide
set_option maxRecDepth 20000 in
theorem ggX4_mean_X4_areOdds : GoodIn wsX4_mean wsX4_areOdds := goodIn_r _ [14, 15, 16, 9, 10, 6, 11] (by decide +kernel) (by decide +kernel)
set_option maxRecDepth 20000 in
theorem gX4_mean_X4_areOdds : GoodIn wsX4_mean (va_wsS RX4 195 yX4_areOdds wsX4_areOdds) := goodIn_app (goodIn_of _ (by decide +kernel)) ggX4_mean_X4_areOdds
set_option maxRecDepth 20000 in
theorem ggX4_mean_X4_layLonger : GoodIn wsX4_mean wsX4_layLonger := goodIn_r _ [20, 2, 21, 22, 23, 24, 6, 25, 26, 27, 28, 29, 30, 31, 32, 33, 34, 35, 36, 37, 38, 39, 40, 3, 63, 64, 65, 66, 67, 68, 69, 70, 71, 72, 73, 74, 75, 76, 77, 78, 79, 80, 81, 82, 83, 84, 85, 86, 87, 88, 89, 90, 91, 92, 93, 94, 95, 96] (by decide +kernel) (by decide +kernel)
set_option maxRecDepth 20000 in
theorem gX4_mean_X4_layLonger : GoodIn wsX4_mean (wsV RX4 201 RX4 yX4_layLonger wsX4_layLonger) := goodIn_app (goodIn_of _ (by decide +kernel)) ggX4_mean_X4_layLonger
set_option maxRecDepth 20000 in
theorem ggX4_mean_X4_plead : GoodIn wsX4_mean wsX4_plead := goodIn_r _ [44, 45, 46, 28, 26, 31, 3, 47, 48, 49, 50, 51, 52, 6, 53, 54, 55, 21, 63, 64, 65, 66, 67, 68, 69, 70, 71, 72, 73, 74, 75, 76, 77, 78, 79, 80, 81, 82, 83, 84, 85, 86, 87, 88, 89, 90, 91, 92, 93, 94, 95, 96] (by decide +kernel) (by decide +kernel)
set_option maxRecDepth 20000 in
theorem gX4_mean_X4_plead : GoodIn wsX4_mean (wsV RX4 155 RX4 yX4_plead wsX4_plead) := goodIn_app (goodIn_of _ (by decide +kernel)) ggX4_mean_X4_plead
set_option maxRecDepth 20000 in
theorem ggX4_mean_X4_allWays : GoodIn wsX4_mean wsX4_allWays := goodIn_r _ [59, 2, 16, 63, 64, 65, 66, 67, 68, 69, 70, 71, 72, 73, 74, 75, 76, 77, 78, 79, 80, 81, 82, 83, 84, 85, 86, 87, 88, 89, 90, 91, 92, 93, 94, 95, 96] (by decide +kernel) (by decide +kernel)
set_option maxRecDepth 20000 in
theorem gX4_mean_X4_allWays : GoodIn wsX4_mean (wsV RX4 208 RX4 yX4_allWays wsX4_allWays) := goodIn_app (goodIn_of _ (by decide +kernel)) ggX4_mean_X4_allWays
set_option maxRecDepth 20000 in
theorem ggX4_mean_X4_lowest : GoodIn wsX4_mean wsX4_lowest := goodIn_r _ [62] (by decide +kernel) (by decide +kernel)
set_option maxRecDepth 20000 in
theorem gX4_mean_X4_lowest : GoodIn wsX4_mean (va_wsS RX4 212 yX4_lowest wsX4_lowest) := goodIn_app (goodIn_of _ (by decide +kernel)) ggX4_mean_X4_lowest
theorem dX4_mean_0 : decode cX4_mean 0 = .ok (.iload_n 1, 1) := by decide +kernel
theorem dX4_mean_1 : decode cX4_mean 1 = .ok (.invokestatic 169, 3) := by decide +kernel
theorem dX4_mean_4 : decode cX4_mean 4 = .ok (.ifCond .eq 13, 3) := by decide +kernel
theorem dX4_mean_7 : decode cX4_mean 7 = .ok (.iload_n 2, 1) := by decide +kernel
theorem dX4_mean_8 : decode cX4_mean 8 = .ok (.iload_n 3, 1) := by decide +kernel
theorem dX4_mean_9 : decode cX4_mean 9 = .ok (.iload 4, 2) := by decide +kernel
theorem dX4_mean_11 : decode cX4_mean 11 = .ok (.invokestatic 195, 3) := by decide +kernel
theorem dX4_mean_14 : decode cX4_mean 14 = .ok (.ifCond .ne 7, 3) := by decide +kernel
theorem dX4_mean_17 : decode cX4_mean 17 = .ok (.ldc2_w 199, 3) := by decide +kernel
theorem dX4_mean_20 : decode cX4_mean 20 = .ok (.lreturn, 1) := by decide +kernel
theorem dX4_mean_21 : decode cX4_mean 21 = .ok (.lconst 0, 1) := by decide +kernel
theorem dX4_mean_22 : decode cX4_mean 22 = .ok (.lstore 5, 2) := by decide +kernel
theorem dX4_mean_24 : decode cX4_mean 24 = .ok (.iconst 0, 1) := by decide +kernel
theorem dX4_mean_25 : decode cX4_mean 25 = .ok (.istore 7, 2) := by decide +kernel
theorem dX4_mean_27 : decode cX4_mean 27 = .ok (.iload 7, 2) := by decide +kernel
theorem dX4_mean_29 : decode cX4_mean 29 = .ok (.iconst 1, 1) := by decide +kernel
theorem dX4_mean_30 : decode cX4_mean 30 = .ok (.aload_n 0, 1) := by decide +kernel
theorem dX4_mean_31 : decode cX4_mean 31 = .ok (.getfield 113, 3) := by decide +kernel
theorem dX4_mean_34 : decode cX4_mean 34 = .ok (.ishl, 1) := by decide +kernel
theorem dX4_mean_35 : decode cX4_mean 35 = .ok (.if_icmp .ge 37, 3) := by decide +kernel
theorem dX4_mean_38 : decode cX4_mean 38 = .ok (.aload_n 0, 1) := by decide +kernel
theorem dX4_mean_39 : decode cX4_mean 39 = .ok (.iload 7, 2) := by decide +kernel
theorem dX4_mean_41 : decode cX4_mean 41 = .ok (.iload_n 2, 1) := by decide +kernel
theorem dX4_mean_42 : decode cX4_mean 42 = .ok (.iload_n 3, 1) := by decide +kernel
theorem dX4_mean_43 : decode cX4_mean 43 = .ok (.invokevirtual 201, 3) := by decide +kernel
theorem dX4_mean_46 : decode cX4_mean 46 = .ok (.lstore 8, 2) := by decide +kernel
theorem dX4_mean_48 : decode cX4_mean 48 = .ok (.aload_n 0, 1) := by decide +kernel
theorem dX4_mean_49 : decode cX4_mean 49 = .ok (.invokevirtual 155, 3) := by decide +kernel
theorem dX4_mean_52 : decode cX4_mean 52 = .ok (.lload 5, 2) := by decide +kernel
theorem dX4_mean_54 : decode cX4_mean 54 = .ok (.lload 8, 2) := by decide +kernel
theorem dX4_mean_56 : decode cX4_mean 56 = .ok (.aload_n 0, 1) := by decide +kernel
theorem dX4_mean_57 : decode cX4_mean 57 = .ok (.getfield 40, 3) := by decide +kernel
theorem dX4_mean_60 : decode cX4_mean 60 = .ok (.iload_n 1, 1) := by decide +kernel
theorem dX4_mean_61 : decode cX4_mean 61 = .ok (.laload, 1) := by decide +kernel
theorem dX4_mean_62 : decode cX4_mean 62 = .ok (.lmul, 1) := by decide +kernel
theorem dX4_mean_63 : decode cX4_mean 63 = .ok (.ladd, 1) := by decide +kernel
theorem dX4_mean_64 : decode cX4_mean 64 = .ok (.lstore 5, 2) := by decide +kernel
theorem dX4_mean_66 : decode cX4_mean 66 = .ok (.iinc 7 1, 3) := by decide +kernel
theorem dX4_mean_69 : decode cX4_mean 69 = .ok (.goto (-42), 3) := by decide +kernel
theorem dX4_mean_72 : decode cX4_mean 72 = .ok (.lload 5, 2) := by decide +kernel
theorem dX4_mean_74 : decode cX4_mean 74 = .ok (.aload_n 0, 1) := by decide +kernel
theorem dX4_mean_75 : decode cX4_mean 75 = .ok (.invokevirtual 208, 3) := by decide +kernel
theorem dX4_mean_78 : decode cX4_mean 78 = .ok (.iload 4, 2) := by decide +kernel
theorem dX4_mean_80 : decode cX4_mean 80 = .ok (.invokestatic 212, 3) := by decide +kernel
theorem dX4_mean_83 : decode cX4_mean 83 = .ok (.lreturn, 1) := by decide +kernel
set_option maxRecDepth 20000 in
theorem ggX4_term_X4_in : GoodIn wsX4_term wsX4_in := goodIn_r _ [10] (by decide +kernel) (by decide +kernel)
set_option maxRecDepth 20000 in
theorem gX4_term_X4_in : GoodIn wsX4_term (va_wsS RX4 72 yX4_in wsX4_in) := goodIn_app (goodIn_of _ (by decide +kernel)) ggX4_term_X4_in
set_option maxRecDepth 20000 in
theorem ggX4_term_X4_layNow : GoodIn wsX4_term wsX4_layNow := goodIn_r _ [14, 5, 15, 16, 17, 3, 18, 19, 20, 21, 22, 23, 9, 24, 25, 26, 27, 28, 29, 6, 44, 45, 46, 47, 48, 49, 50, 51, 52, 53, 54, 55, 56, 57, 58, 59, 60, 61, 62, 63, 64, 65, 66, 67, 68, 69, 70, 71, 72, 73, 74, 75, 76, 77] (by decide +kernel) (by decide +kernel)
set_option maxRecDepth 20000 in
theorem gX4_term_X4_layNow : GoodIn wsX4_term (wsV RX4 152 RX4 yX4_layNow wsX4_layNow) := goodIn_app (goodIn_of _ (by decide +kernel)) ggX4_term_X4_layNow
set_option maxRecDepth 20000 in
theorem ggX4_term_X4_plead : GoodIn wsX4_term wsX4_plead := goodIn_r _ [33, 4, 34, 3, 5, 20, 6, 35, 36, 37, 38, 39, 40, 9, 41, 42, 43, 16, 44, 45, 46, 47, 48, 49, 50, 51, 52, 53, 54, 55, 56, 57, 58, 59, 60, 61, 62, 63, 64, 65, 66, 67, 68, 69, 70, 71, 72, 73, 74, 75, 76, 77] (by decide +kernel) (by decide +kernel)
set_option maxRecDepth 20000 in
theorem gX4_term_X4_plead : GoodIn wsX4_term (wsV RX4 155 RX4 yX4_plead wsX4_plead) := goodIn_app (goodIn_of _ (by decide +kernel)) ggX4_term_X4_plead
theorem dX4_term_0 : decode cX4_term 0 = .ok (.iload_n 1, 1) := by decide +kernel
theorem dX4_term_1 : decode cX4_term 1 = .ok (.i2l, 1) := by decide +kernel
theorem dX4_term_2 : decode cX4_term 2 = .ok (.ldc2_w 172, 3) := by decide +kernel
theorem dX4_term_5 : decode cX4_term 5 = .ok (.ldc2_w 70, 3) := by decide +kernel
theorem dX4_term_8 : decode cX4_term 8 = .ok (.invokestatic 72, 3) := by decide +kernel
theorem dX4_term_11 : decode cX4_term 11 = .ok (.ifCond .ne 6, 3) := by decide +kernel
theorem dX4_term_14 : decode cX4_term 14 = .ok (.bipush (-2), 2) := by decide +kernel
theorem dX4_term_16 : decode cX4_term 16 = .ok (.ireturn, 1) := by decide +kernel
theorem dX4_term_17 : decode cX4_term 17 = .ok (.aload_n 0, 1) := by decide +kernel
theorem dX4_term_18 : decode cX4_term 18 = .ok (.invokevirtual 152, 3) := by decide +kernel
theorem dX4_term_21 : decode cX4_term 21 = .ok (.iconst 0, 1) := by decide +kernel
theorem dX4_term_22 : decode cX4_term 22 = .ok (.istore_n 2, 1) := by decide +kernel
theorem dX4_term_23 : decode cX4_term 23 = .ok (.aload_n 0, 1) := by decide +kernel
theorem dX4_term_24 : decode cX4_term 24 = .ok (.getfield 129, 3) := by decide +kernel
theorem dX4_term_27 : decode cX4_term 27 = .ok (.ifCond .le 82, 3) := by decide +kernel
theorem dX4_term_30 : decode cX4_term 30 = .ok (.aload_n 0, 1) := by decide +kernel
theorem dX4_term_31 : decode cX4_term 31 = .ok (.invokevirtual 155, 3) := by decide +kernel
theorem dX4_term_34 : decode cX4_term 34 = .ok (.iinc 2 1, 3) := by decide +kernel
theorem dX4_term_37 : decode cX4_term 37 = .ok (.aload_n 0, 1) := by decide +kernel
theorem dX4_term_38 : decode cX4_term 38 = .ok (.getfield 142, 3) := by decide +kernel
theorem dX4_term_41 : decode cX4_term 41 = .ok (.aload_n 0, 1) := by decide +kernel
theorem dX4_term_42 : decode cX4_term 42 = .ok (.getfield 129, 3) := by decide +kernel
theorem dX4_term_45 : decode cX4_term 45 = .ok (.if_icmp .ge 12, 3) := by decide +kernel
theorem dX4_term_48 : decode cX4_term 48 = .ok (.aload_n 0, 1) := by decide +kernel
theorem dX4_term_49 : decode cX4_term 49 = .ok (.getfield 142, 3) := by decide +kernel
theorem dX4_term_52 : decode cX4_term 52 = .ok (.iconst 1, 1) := by decide +kernel
theorem dX4_term_53 : decode cX4_term 53 = .ok (.iadd, 1) := by decide +kernel
theorem dX4_term_54 : decode cX4_term 54 = .ok (.goto 7, 3) := by decide +kernel
theorem dX4_term_57 : decode cX4_term 57 = .ok (.aload_n 0, 1) := by decide +kernel
theorem dX4_term_58 : decode cX4_term 58 = .ok (.getfield 142, 3) := by decide +kernel
theorem dX4_term_61 : decode cX4_term 61 = .ok (.istore_n 3, 1) := by decide +kernel
theorem dX4_term_62 : decode cX4_term 62 = .ok (.aload_n 0, 1) := by decide +kernel
theorem dX4_term_63 : decode cX4_term 63 = .ok (.dup, 1) := by decide +kernel
theorem dX4_term_64 : decode cX4_term 64 = .ok (.getfield 129, 3) := by decide +kernel
theorem dX4_term_67 : decode cX4_term 67 = .ok (.iload_n 3, 1) := by decide +kernel
theorem dX4_term_68 : decode cX4_term 68 = .ok (.isub, 1) := by decide +kernel
theorem dX4_term_69 : decode cX4_term 69 = .ok (.putfield 129, 3) := by decide +kernel
theorem dX4_term_72 : decode cX4_term 72 = .ok (.iconst 0, 1) := by decide +kernel
theorem dX4_term_73 : decode cX4_term 73 = .ok (.istore 4, 2) := by decide +kernel
theorem dX4_term_75 : decode cX4_term 75 = .ok (.iload 4, 2) := by decide +kernel
theorem dX4_term_77 : decode cX4_term 77 = .ok (.aload_n 0, 1) := by decide +kernel
theorem dX4_term_78 : decode cX4_term 78 = .ok (.getfield 129, 3) := by decide +kernel
theorem dX4_term_81 : decode cX4_term 81 = .ok (.if_icmp .ge 25, 3) := by decide +kernel
theorem dX4_term_84 : decode cX4_term 84 = .ok (.aload_n 0, 1) := by decide +kernel
theorem dX4_term_85 : decode cX4_term 85 = .ok (.getfield 34, 3) := by decide +kernel
theorem dX4_term_88 : decode cX4_term 88 = .ok (.iload 4, 2) := by decide +kernel
theorem dX4_term_90 : decode cX4_term 90 = .ok (.aload_n 0, 1) := by decide +kernel
theorem dX4_term_91 : decode cX4_term 91 = .ok (.getfield 34, 3) := by decide +kernel
theorem dX4_term_94 : decode cX4_term 94 = .ok (.iload 4, 2) := by decide +kernel
theorem dX4_term_96 : decode cX4_term 96 = .ok (.iload_n 3, 1) := by decide +kernel
theorem dX4_term_97 : decode cX4_term 97 = .ok (.iadd, 1) := by decide +kernel
theorem dX4_term_98 : decode cX4_term 98 = .ok (.iaload, 1) := by decide +kernel
theorem dX4_term_99 : decode cX4_term 99 = .ok (.iastore, 1) := by decide +kernel
theorem dX4_term_100 : decode cX4_term 100 = .ok (.iinc 4 1, 3) := by decide +kernel
theorem dX4_term_103 : decode cX4_term 103 = .ok (.goto (-28), 3) := by decide +kernel
theorem dX4_term_106 : decode cX4_term 106 = .ok (.goto (-83), 3) := by decide +kernel
theorem dX4_term_109 : decode cX4_term 109 = .ok (.iload_n 1, 1) := by decide +kernel
theorem dX4_term_110 : decode cX4_term 110 = .ok (.iconst (-1), 1) := by decide +kernel
theorem dX4_term_111 : decode cX4_term 111 = .ok (.if_icmp .ne 7, 3) := by decide +kernel
theorem dX4_term_114 : decode cX4_term 114 = .ok (.iload_n 2, 1) := by decide +kernel
theorem dX4_term_115 : decode cX4_term 115 = .ok (.goto 10, 3) := by decide +kernel
theorem dX4_term_118 : decode cX4_term 118 = .ok (.aload_n 0, 1) := by decide +kernel
theorem dX4_term_119 : decode cX4_term 119 = .ok (.getfield 40, 3) := by decide +kernel
theorem dX4_term_122 : decode cX4_term 122 = .ok (.iload_n 1, 1) := by decide +kernel
theorem dX4_term_123 : decode cX4_term 123 = .ok (.laload, 1) := by decide +kernel
theorem dX4_term_124 : decode cX4_term 124 = .ok (.l2i, 1) := by decide +kernel
theorem dX4_term_125 : decode cX4_term 125 = .ok (.ireturn, 1) := by decide +kernel
set_option maxRecDepth 20000 in
theorem ggX4_seen_X4_in : GoodIn wsX4_seen wsX4_in := goodIn_r _ [9] (by decide +kernel) (by decide +kernel)
set_option maxRecDepth 20000 in
theorem gX4_seen_X4_in : GoodIn wsX4_seen (va_wsS RX4 72 yX4_in wsX4_in) := goodIn_app (goodIn_of _ (by decide +kernel)) ggX4_seen_X4_in
theorem dX4_seen_0 : decode cX4_seen 0 = .ok (.iload_n 1, 1) := by decide +kernel
theorem dX4_seen_1 : decode cX4_seen 1 = .ok (.i2l, 1) := by decide +kernel
theorem dX4_seen_2 : decode cX4_seen 2 = .ok (.lconst 1, 1) := by decide +kernel
theorem dX4_seen_3 : decode cX4_seen 3 = .ok (.ldc2_w 216, 3) := by decide +kernel
theorem dX4_seen_6 : decode cX4_seen 6 = .ok (.invokestatic 72, 3) := by decide +kernel
theorem dX4_seen_9 : decode cX4_seen 9 = .ok (.ifCond .eq 17, 3) := by decide +kernel
theorem dX4_seen_12 : decode cX4_seen 12 = .ok (.iload_n 2, 1) := by decide +kernel
theorem dX4_seen_13 : decode cX4_seen 13 = .ok (.i2l, 1) := by decide +kernel
theorem dX4_seen_14 : decode cX4_seen 14 = .ok (.lconst 0, 1) := by decide +kernel
theorem dX4_seen_15 : decode cX4_seen 15 = .ok (.aload_n 0, 1) := by decide +kernel
theorem dX4_seen_16 : decode cX4_seen 16 = .ok (.getfield 113, 3) := by decide +kernel
theorem dX4_seen_19 : decode cX4_seen 19 = .ok (.i2l, 1) := by decide +kernel
theorem dX4_seen_20 : decode cX4_seen 20 = .ok (.invokestatic 72, 3) := by decide +kernel
theorem dX4_seen_23 : decode cX4_seen 23 = .ok (.ifCond .ne 6, 3) := by decide +kernel
theorem dX4_seen_26 : decode cX4_seen 26 = .ok (.bipush (-2), 2) := by decide +kernel
theorem dX4_seen_28 : decode cX4_seen 28 = .ok (.ireturn, 1) := by decide +kernel
theorem dX4_seen_29 : decode cX4_seen 29 = .ok (.aload_n 0, 1) := by decide +kernel
theorem dX4_seen_30 : decode cX4_seen 30 = .ok (.getfield 126, 3) := by decide +kernel
theorem dX4_seen_33 : decode cX4_seen 33 = .ok (.bipush 6, 2) := by decide +kernel
theorem dX4_seen_35 : decode cX4_seen 35 = .ok (.if_icmp .ne 6, 3) := by decide +kernel
theorem dX4_seen_38 : decode cX4_seen 38 = .ok (.bipush (-4), 2) := by decide +kernel
theorem dX4_seen_40 : decode cX4_seen 40 = .ok (.ireturn, 1) := by decide +kernel
theorem dX4_seen_41 : decode cX4_seen 41 = .ok (.aload_n 0, 1) := by decide +kernel
theorem dX4_seen_42 : decode cX4_seen 42 = .ok (.getfield 25, 3) := by decide +kernel
theorem dX4_seen_45 : decode cX4_seen 45 = .ok (.aload_n 0, 1) := by decide +kernel
theorem dX4_seen_46 : decode cX4_seen 46 = .ok (.getfield 126, 3) := by decide +kernel
theorem dX4_seen_49 : decode cX4_seen 49 = .ok (.iload_n 1, 1) := by decide +kernel
theorem dX4_seen_50 : decode cX4_seen 50 = .ok (.iastore, 1) := by decide +kernel
theorem dX4_seen_51 : decode cX4_seen 51 = .ok (.aload_n 0, 1) := by decide +kernel
theorem dX4_seen_52 : decode cX4_seen 52 = .ok (.getfield 28, 3) := by decide +kernel
theorem dX4_seen_55 : decode cX4_seen 55 = .ok (.aload_n 0, 1) := by decide +kernel
theorem dX4_seen_56 : decode cX4_seen 56 = .ok (.getfield 126, 3) := by decide +kernel
theorem dX4_seen_59 : decode cX4_seen 59 = .ok (.iload_n 2, 1) := by decide +kernel
theorem dX4_seen_60 : decode cX4_seen 60 = .ok (.iastore, 1) := by decide +kernel
theorem dX4_seen_61 : decode cX4_seen 61 = .ok (.aload_n 0, 1) := by decide +kernel
theorem dX4_seen_62 : decode cX4_seen 62 = .ok (.dup, 1) := by decide +kernel
theorem dX4_seen_63 : decode cX4_seen 63 = .ok (.getfield 126, 3) := by decide +kernel
theorem dX4_seen_66 : decode cX4_seen 66 = .ok (.iconst 1, 1) := by decide +kernel
theorem dX4_seen_67 : decode cX4_seen 67 = .ok (.iadd, 1) := by decide +kernel
theorem dX4_seen_68 : decode cX4_seen 68 = .ok (.putfield 126, 3) := by decide +kernel
theorem dX4_seen_71 : decode cX4_seen 71 = .ok (.aload_n 0, 1) := by decide +kernel
theorem dX4_seen_72 : decode cX4_seen 72 = .ok (.getfield 126, 3) := by decide +kernel
theorem dX4_seen_75 : decode cX4_seen 75 = .ok (.ireturn, 1) := by decide +kernel
theorem dX4_forget_0 : decode cX4_forget 0 = .ok (.aload_n 0, 1) := by decide +kernel
theorem dX4_forget_1 : decode cX4_forget 1 = .ok (.getfield 126, 3) := by decide +kernel
theorem dX4_forget_4 : decode cX4_forget 4 = .ok (.istore_n 1, 1) := by decide +kernel
theorem dX4_forget_5 : decode cX4_forget 5 = .ok (.aload_n 0, 1) := by decide +kernel
theorem dX4_forget_6 : decode cX4_forget 6 = .ok (.iconst 0, 1) := by decide +kernel
theorem dX4_forget_7 : decode cX4_forget 7 = .ok (.putfield 126, 3) := by decide +kernel
theorem dX4_forget_10 : decode cX4_forget 10 = .ok (.iload_n 1, 1) := by decide +kernel
theorem dX4_forget_11 : decode cX4_forget 11 = .ok (.ireturn, 1) := by decide +kernel
set_option maxRecDepth 20000 in
theorem ggX4_fits_X4_layNow : GoodIn wsX4_fits wsX4_layNow := goodIn_r _ [10, 11, 12, 13, 14, 15, 16, 17, 3, 18, 19, 20, 9, 21, 22, 23, 24, 25, 26, 27, 42, 43, 44, 45, 46, 47, 48, 49, 50, 51, 52, 53, 54, 55, 56, 57, 58, 59, 60, 61, 62, 63, 64, 65, 66, 67, 68, 69, 70, 71, 72, 73, 74, 75] (by decide +kernel) (by decide +kernel)
set_option maxRecDepth 20000 in
theorem gX4_fits_X4_layNow : GoodIn wsX4_fits (wsV RX4 152 RX4 yX4_layNow wsX4_layNow) := goodIn_app (goodIn_of _ (by decide +kernel)) ggX4_fits_X4_layNow
set_option maxRecDepth 20000 in
theorem ggX4_fits_X4_floatsBy : GoodIn wsX4_fits wsX4_floatsBy := goodIn_r _ [21, 22, 42, 43, 44, 45, 46, 47, 48, 49, 50, 51, 52, 53, 54, 55, 56, 57, 58, 59, 60, 61, 62, 63, 64, 65, 66, 67, 68, 69, 70, 71, 72, 73, 74, 75] (by decide +kernel) (by decide +kernel)
set_option maxRecDepth 20000 in
theorem gX4_fits_X4_floatsBy : GoodIn wsX4_fits (wsV RX4 132 RX4 yX4_floatsBy wsX4_floatsBy) := goodIn_app (goodIn_of _ (by decide +kernel)) ggX4_fits_X4_floatsBy
set_option maxRecDepth 20000 in
theorem ggX4_fits_X4_plead : GoodIn wsX4_fits wsX4_plead := goodIn_r _ [31, 4, 32, 15, 11, 3, 27, 33, 34, 35, 36, 37, 38, 9, 39, 40, 41, 13, 42, 43, 44, 45, 46, 47, 48, 49, 50, 51, 52, 53, 54, 55, 56, 57, 58, 59, 60, 61, 62, 63, 64, 65, 66, 67, 68, 69, 70, 71, 72, 73, 74, 75] (by decide +kernel) (by decide +kernel)
set_option maxRecDepth 20000 in
theorem gX4_fits_X4_plead : GoodIn wsX4_fits (wsV RX4 155 RX4 yX4_plead wsX4_plead) := goodIn_app (goodIn_of _ (by decide +kernel)) ggX4_fits_X4_plead
theorem dX4_fits_0 : decode cX4_fits 0 = .ok (.iconst 0, 1) := by decide +kernel
theorem dX4_fits_1 : decode cX4_fits 1 = .ok (.istore_n 1, 1) := by decide +kernel
theorem dX4_fits_2 : decode cX4_fits 2 = .ok (.iconst 1, 1) := by decide +kernel
theorem dX4_fits_3 : decode cX4_fits 3 = .ok (.istore_n 2, 1) := by decide +kernel
theorem dX4_fits_4 : decode cX4_fits 4 = .ok (.iload_n 2, 1) := by decide +kernel
theorem dX4_fits_5 : decode cX4_fits 5 = .ok (.bipush 10, 2) := by decide +kernel
theorem dX4_fits_7 : decode cX4_fits 7 = .ok (.if_icmp .ge 91, 3) := by decide +kernel
theorem dX4_fits_10 : decode cX4_fits 10 = .ok (.iconst 1, 1) := by decide +kernel
theorem dX4_fits_11 : decode cX4_fits 11 = .ok (.istore_n 3, 1) := by decide +kernel
theorem dX4_fits_12 : decode cX4_fits 12 = .ok (.iconst 0, 1) := by decide +kernel
theorem dX4_fits_13 : decode cX4_fits 13 = .ok (.istore 4, 2) := by decide +kernel
theorem dX4_fits_15 : decode cX4_fits 15 = .ok (.iload 4, 2) := by decide +kernel
theorem dX4_fits_17 : decode cX4_fits 17 = .ok (.aload_n 0, 1) := by decide +kernel
theorem dX4_fits_18 : decode cX4_fits 18 = .ok (.getfield 126, 3) := by decide +kernel
theorem dX4_fits_21 : decode cX4_fits 21 = .ok (.if_icmp .ge 57, 3) := by decide +kernel
theorem dX4_fits_24 : decode cX4_fits 24 = .ok (.aload_n 0, 1) := by decide +kernel
theorem dX4_fits_25 : decode cX4_fits 25 = .ok (.invokevirtual 152, 3) := by decide +kernel
theorem dX4_fits_28 : decode cX4_fits 28 = .ok (.aload_n 0, 1) := by decide +kernel
theorem dX4_fits_29 : decode cX4_fits 29 = .ok (.aload_n 0, 1) := by decide +kernel
theorem dX4_fits_30 : decode cX4_fits 30 = .ok (.aload_n 0, 1) := by decide +kernel
theorem dX4_fits_31 : decode cX4_fits 31 = .ok (.getfield 25, 3) := by decide +kernel
theorem dX4_fits_34 : decode cX4_fits 34 = .ok (.iload 4, 2) := by decide +kernel
theorem dX4_fits_36 : decode cX4_fits 36 = .ok (.iaload, 1) := by decide +kernel
theorem dX4_fits_37 : decode cX4_fits 37 = .ok (.iload_n 2, 1) := by decide +kernel
theorem dX4_fits_38 : decode cX4_fits 38 = .ok (.invokevirtual 132, 3) := by decide +kernel
theorem dX4_fits_41 : decode cX4_fits 41 = .ok (.putfield 136, 3) := by decide +kernel
theorem dX4_fits_44 : decode cX4_fits 44 = .ok (.aload_n 0, 1) := by decide +kernel
theorem dX4_fits_45 : decode cX4_fits 45 = .ok (.invokevirtual 155, 3) := by decide +kernel
theorem dX4_fits_48 : decode cX4_fits 48 = .ok (.iload_n 3, 1) := by decide +kernel
theorem dX4_fits_49 : decode cX4_fits 49 = .ok (.ifCond .eq 21, 3) := by decide +kernel
theorem dX4_fits_52 : decode cX4_fits 52 = .ok (.aload_n 0, 1) := by decide +kernel
theorem dX4_fits_53 : decode cX4_fits 53 = .ok (.getfield 142, 3) := by decide +kernel
theorem dX4_fits_56 : decode cX4_fits 56 = .ok (.aload_n 0, 1) := by decide +kernel
theorem dX4_fits_57 : decode cX4_fits 57 = .ok (.getfield 28, 3) := by decide +kernel
theorem dX4_fits_60 : decode cX4_fits 60 = .ok (.iload 4, 2) := by decide +kernel
theorem dX4_fits_62 : decode cX4_fits 62 = .ok (.iaload, 1) := by decide +kernel
theorem dX4_fits_63 : decode cX4_fits 63 = .ok (.if_icmp .ne 7, 3) := by decide +kernel
theorem dX4_fits_66 : decode cX4_fits 66 = .ok (.iconst 1, 1) := by decide +kernel
theorem dX4_fits_67 : decode cX4_fits 67 = .ok (.goto 4, 3) := by decide +kernel
theorem dX4_fits_70 : decode cX4_fits 70 = .ok (.iconst 0, 1) := by decide +kernel
theorem dX4_fits_71 : decode cX4_fits 71 = .ok (.istore_n 3, 1) := by decide +kernel
theorem dX4_fits_72 : decode cX4_fits 72 = .ok (.iinc 4 1, 3) := by decide +kernel
theorem dX4_fits_75 : decode cX4_fits 75 = .ok (.goto (-60), 3) := by decide +kernel
theorem dX4_fits_78 : decode cX4_fits 78 = .ok (.iload_n 1, 1) := by decide +kernel
theorem dX4_fits_79 : decode cX4_fits 79 = .ok (.iload_n 3, 1) := by decide +kernel
theorem dX4_fits_80 : decode cX4_fits 80 = .ok (.ifCond .eq 9, 3) := by decide +kernel
theorem dX4_fits_83 : decode cX4_fits 83 = .ok (.iconst 1, 1) := by decide +kernel
theorem dX4_fits_84 : decode cX4_fits 84 = .ok (.iload_n 2, 1) := by decide +kernel
theorem dX4_fits_85 : decode cX4_fits 85 = .ok (.ishl, 1) := by decide +kernel
theorem dX4_fits_86 : decode cX4_fits 86 = .ok (.goto 4, 3) := by decide +kernel
theorem dX4_fits_89 : decode cX4_fits 89 = .ok (.iconst 0, 1) := by decide +kernel
theorem dX4_fits_90 : decode cX4_fits 90 = .ok (.ior, 1) := by decide +kernel
theorem dX4_fits_91 : decode cX4_fits 91 = .ok (.istore_n 1, 1) := by decide +kernel
theorem dX4_fits_92 : decode cX4_fits 92 = .ok (.iinc 2 1, 3) := by decide +kernel
theorem dX4_fits_95 : decode cX4_fits 95 = .ok (.goto (-91), 3) := by decide +kernel
theorem dX4_fits_98 : decode cX4_fits 98 = .ok (.iload_n 1, 1) := by decide +kernel
theorem dX4_fits_99 : decode cX4_fits 99 = .ok (.ireturn, 1) := by decide +kernel
set_option maxRecDepth 20000 in
theorem ggX4_year_X4_in : GoodIn wsX4_year wsX4_in := goodIn_r _ [15] (by decide +kernel) (by decide +kernel)
set_option maxRecDepth 20000 in
theorem gX4_year_X4_in : GoodIn wsX4_year (va_wsS RX4 72 yX4_in wsX4_in) := goodIn_app (goodIn_of _ (by decide +kernel)) ggX4_year_X4_in
set_option maxRecDepth 20000 in
theorem ggX4_year_X4_layNow : GoodIn wsX4_year wsX4_layNow := goodIn_r _ [19, 20, 21, 22, 23, 24, 25, 8, 9, 26, 27, 28, 14, 29, 30, 31, 32, 33, 34, 11, 49, 50, 51, 52, 53, 54, 55, 56, 57, 58, 59, 60, 61, 62, 63, 64, 65, 66, 67, 68, 69, 70, 71, 72, 73, 74, 75, 76, 77, 78, 79, 80, 81, 82] (by decide +kernel) (by decide +kernel)
set_option maxRecDepth 20000 in
theorem gX4_year_X4_layNow : GoodIn wsX4_year (wsV RX4 152 RX4 yX4_layNow wsX4_layNow) := goodIn_app (goodIn_of _ (by decide +kernel)) ggX4_year_X4_layNow
set_option maxRecDepth 20000 in
theorem ggX4_year_X4_floatsBy : GoodIn wsX4_year wsX4_floatsBy := goodIn_r _ [29, 30, 49, 50, 51, 52, 53, 54, 55, 56, 57, 58, 59, 60, 61, 62, 63, 64, 65, 66, 67, 68, 69, 70, 71, 72, 73, 74, 75, 76, 77, 78, 79, 80, 81, 82] (by decide +kernel) (by decide +kernel)
set_option maxRecDepth 20000 in
theorem gX4_year_X4_floatsBy : GoodIn wsX4_year (wsV RX4 132 RX4 yX4_floatsBy wsX4_floatsBy) := goodIn_app (goodIn_of _ (by decide +kernel)) ggX4_year_X4_floatsBy
set_option maxRecDepth 20000 in
theorem ggX4_year_X4_plead : GoodIn wsX4_year wsX4_plead := goodIn_r _ [38, 10, 39, 24, 20, 9, 11, 40, 41, 42, 43, 44, 45, 14, 46, 47, 48, 22, 49, 50, 51, 52, 53, 54, 55, 56, 57, 58, 59, 60, 61, 62, 63, 64, 65, 66, 67, 68, 69, 70, 71, 72, 73, 74, 75, 76, 77, 78, 79, 80, 81, 82] (by decide +kernel) (by decide +kernel)
set_option maxRecDepth 20000 in
theorem gX4_year_X4_plead : GoodIn wsX4_year (wsV RX4 155 RX4 yX4_plead wsX4_plead) := goodIn_app (goodIn_of _ (by decide +kernel)) ggX4_year_X4_plead
theorem dX4_year_0 : decode cX4_year 0 = .ok (.iload_n 1, 1) := by decide +kernel
theorem dX4_year_1 : decode cX4_year 1 = .ok (.i2l, 1) := by decide +kernel
theorem dX4_year_2 : decode cX4_year 2 = .ok (.lconst 0, 1) := by decide +kernel
theorem dX4_year_3 : decode cX4_year 3 = .ok (.ldc2_w 218, 3) := by decide +kernel
theorem dX4_year_6 : decode cX4_year 6 = .ok (.invokestatic 72, 3) := by decide +kernel
theorem dX4_year_9 : decode cX4_year 9 = .ok (.ifCond .eq 29, 3) := by decide +kernel
theorem dX4_year_12 : decode cX4_year 12 = .ok (.iload_n 2, 1) := by decide +kernel
theorem dX4_year_13 : decode cX4_year 13 = .ok (.i2l, 1) := by decide +kernel
theorem dX4_year_14 : decode cX4_year 14 = .ok (.lconst 1, 1) := by decide +kernel
theorem dX4_year_15 : decode cX4_year 15 = .ok (.ldc2_w 216, 3) := by decide +kernel
theorem dX4_year_18 : decode cX4_year 18 = .ok (.invokestatic 72, 3) := by decide +kernel
theorem dX4_year_21 : decode cX4_year 21 = .ok (.ifCond .eq 17, 3) := by decide +kernel
theorem dX4_year_24 : decode cX4_year 24 = .ok (.iload_n 3, 1) := by decide +kernel
theorem dX4_year_25 : decode cX4_year 25 = .ok (.i2l, 1) := by decide +kernel
theorem dX4_year_26 : decode cX4_year 26 = .ok (.ldc2_w 172, 3) := by decide +kernel
theorem dX4_year_29 : decode cX4_year 29 = .ok (.ldc2_w 70, 3) := by decide +kernel
theorem dX4_year_32 : decode cX4_year 32 = .ok (.invokestatic 72, 3) := by decide +kernel
theorem dX4_year_35 : decode cX4_year 35 = .ok (.ifCond .ne 6, 3) := by decide +kernel
theorem dX4_year_38 : decode cX4_year 38 = .ok (.bipush (-2), 2) := by decide +kernel
theorem dX4_year_40 : decode cX4_year 40 = .ok (.ireturn, 1) := by decide +kernel
theorem dX4_year_41 : decode cX4_year 41 = .ok (.aload_n 0, 1) := by decide +kernel
theorem dX4_year_42 : decode cX4_year 42 = .ok (.invokevirtual 152, 3) := by decide +kernel
theorem dX4_year_45 : decode cX4_year 45 = .ok (.iload_n 1, 1) := by decide +kernel
theorem dX4_year_46 : decode cX4_year 46 = .ok (.istore 4, 2) := by decide +kernel
theorem dX4_year_48 : decode cX4_year 48 = .ok (.iconst 0, 1) := by decide +kernel
theorem dX4_year_49 : decode cX4_year 49 = .ok (.istore 5, 2) := by decide +kernel
theorem dX4_year_51 : decode cX4_year 51 = .ok (.iconst 0, 1) := by decide +kernel
theorem dX4_year_52 : decode cX4_year 52 = .ok (.istore 6, 2) := by decide +kernel
theorem dX4_year_54 : decode cX4_year 54 = .ok (.iload 6, 2) := by decide +kernel
theorem dX4_year_56 : decode cX4_year 56 = .ok (.iload_n 2, 1) := by decide +kernel
theorem dX4_year_57 : decode cX4_year 57 = .ok (.if_icmp .ge 59, 3) := by decide +kernel
theorem dX4_year_60 : decode cX4_year 60 = .ok (.ldc2_w 220, 3) := by decide +kernel
theorem dX4_year_63 : decode cX4_year 63 = .ok (.iload 4, 2) := by decide +kernel
theorem dX4_year_65 : decode cX4_year 65 = .ok (.i2l, 1) := by decide +kernel
theorem dX4_year_66 : decode cX4_year 66 = .ok (.lmul, 1) := by decide +kernel
theorem dX4_year_67 : decode cX4_year 67 = .ok (.ldc2_w 222, 3) := by decide +kernel
theorem dX4_year_70 : decode cX4_year 70 = .ok (.ladd, 1) := by decide +kernel
theorem dX4_year_71 : decode cX4_year 71 = .ok (.ldc2_w 224, 3) := by decide +kernel
theorem dX4_year_74 : decode cX4_year 74 = .ok (.lrem, 1) := by decide +kernel
theorem dX4_year_75 : decode cX4_year 75 = .ok (.l2i, 1) := by decide +kernel
theorem dX4_year_76 : decode cX4_year 76 = .ok (.istore 4, 2) := by decide +kernel
theorem dX4_year_78 : decode cX4_year 78 = .ok (.aload_n 0, 1) := by decide +kernel
theorem dX4_year_79 : decode cX4_year 79 = .ok (.aload_n 0, 1) := by decide +kernel
theorem dX4_year_80 : decode cX4_year 80 = .ok (.iconst 1, 1) := by decide +kernel
theorem dX4_year_81 : decode cX4_year 81 = .ok (.iload 4, 2) := by decide +kernel
theorem dX4_year_83 : decode cX4_year 83 = .ok (.bipush 99, 2) := by decide +kernel
theorem dX4_year_85 : decode cX4_year 85 = .ok (.irem, 1) := by decide +kernel
theorem dX4_year_86 : decode cX4_year 86 = .ok (.iadd, 1) := by decide +kernel
theorem dX4_year_87 : decode cX4_year 87 = .ok (.aload_n 0, 1) := by decide +kernel
theorem dX4_year_88 : decode cX4_year 88 = .ok (.getfield 67, 3) := by decide +kernel
theorem dX4_year_91 : decode cX4_year 91 = .ok (.invokevirtual 132, 3) := by decide +kernel
theorem dX4_year_94 : decode cX4_year 94 = .ok (.putfield 136, 3) := by decide +kernel
theorem dX4_year_97 : decode cX4_year 97 = .ok (.aload_n 0, 1) := by decide +kernel
theorem dX4_year_98 : decode cX4_year 98 = .ok (.invokevirtual 155, 3) := by decide +kernel
theorem dX4_year_101 : decode cX4_year 101 = .ok (.iload 5, 2) := by decide +kernel
theorem dX4_year_103 : decode cX4_year 103 = .ok (.aload_n 0, 1) := by decide +kernel
theorem dX4_year_104 : decode cX4_year 104 = .ok (.getfield 142, 3) := by decide +kernel
theorem dX4_year_107 : decode cX4_year 107 = .ok (.iadd, 1) := by decide +kernel
theorem dX4_year_108 : decode cX4_year 108 = .ok (.istore 5, 2) := by decide +kernel
theorem dX4_year_110 : decode cX4_year 110 = .ok (.iinc 6 1, 3) := by decide +kernel
theorem dX4_year_113 : decode cX4_year 113 = .ok (.goto (-59), 3) := by decide +kernel
theorem dX4_year_116 : decode cX4_year 116 = .ok (.iload_n 3, 1) := by decide +kernel
theorem dX4_year_117 : decode cX4_year 117 = .ok (.iconst (-1), 1) := by decide +kernel
theorem dX4_year_118 : decode cX4_year 118 = .ok (.if_icmp .ne 8, 3) := by decide +kernel
theorem dX4_year_121 : decode cX4_year 121 = .ok (.iload 5, 2) := by decide +kernel
theorem dX4_year_123 : decode cX4_year 123 = .ok (.goto 10, 3) := by decide +kernel
theorem dX4_year_126 : decode cX4_year 126 = .ok (.aload_n 0, 1) := by decide +kernel
theorem dX4_year_127 : decode cX4_year 127 = .ok (.getfield 40, 3) := by decide +kernel
theorem dX4_year_130 : decode cX4_year 130 = .ok (.iload_n 3, 1) := by decide +kernel
theorem dX4_year_131 : decode cX4_year 131 = .ok (.laload, 1) := by decide +kernel
theorem dX4_year_132 : decode cX4_year 132 = .ok (.l2i, 1) := by decide +kernel
theorem dX4_year_133 : decode cX4_year 133 = .ok (.ireturn, 1) := by decide +kernel
theorem dX4_pass_0 : decode cX4_pass 0 = .ok (.aload_n 0, 1) := by decide +kernel
theorem dX4_pass_1 : decode cX4_pass 1 = .ok (.getfield 226, 3) := by decide +kernel
theorem dX4_pass_4 : decode cX4_pass 4 = .ok (.ifCond .eq 7, 3) := by decide +kernel
theorem dX4_pass_7 : decode cX4_pass 7 = .ok (.iload_n 1, 1) := by decide +kernel
theorem dX4_pass_8 : decode cX4_pass 8 = .ok (.goto 12, 3) := by decide +kernel
theorem dX4_pass_11 : decode cX4_pass 11 = .ok (.aload_n 0, 1) := by decide +kernel
theorem dX4_pass_12 : decode cX4_pass 12 = .ok (.getfield 57, 3) := by decide +kernel
theorem dX4_pass_15 : decode cX4_pass 15 = .ok (.aload_n 0, 1) := by decide +kernel
theorem dX4_pass_16 : decode cX4_pass 16 = .ok (.getfield 229, 3) := by decide +kernel
theorem dX4_pass_19 : decode cX4_pass 19 = .ok (.iaload, 1) := by decide +kernel
theorem dX4_pass_20 : decode cX4_pass 20 = .ok (.istore_n 2, 1) := by decide +kernel
theorem dX4_pass_21 : decode cX4_pass 21 = .ok (.aload_n 0, 1) := by decide +kernel
theorem dX4_pass_22 : decode cX4_pass 22 = .ok (.getfield 57, 3) := by decide +kernel
theorem dX4_pass_25 : decode cX4_pass 25 = .ok (.aload_n 0, 1) := by decide +kernel
theorem dX4_pass_26 : decode cX4_pass 26 = .ok (.getfield 229, 3) := by decide +kernel
theorem dX4_pass_29 : decode cX4_pass 29 = .ok (.iload_n 2, 1) := by decide +kernel
theorem dX4_pass_30 : decode cX4_pass 30 = .ok (.iastore, 1) := by decide +kernel
theorem dX4_pass_31 : decode cX4_pass 31 = .ok (.aload_n 0, 1) := by decide +kernel
theorem dX4_pass_32 : decode cX4_pass 32 = .ok (.dup, 1) := by decide +kernel
theorem dX4_pass_33 : decode cX4_pass 33 = .ok (.getfield 229, 3) := by decide +kernel
theorem dX4_pass_36 : decode cX4_pass 36 = .ok (.iconst 1, 1) := by decide +kernel
theorem dX4_pass_37 : decode cX4_pass 37 = .ok (.iadd, 1) := by decide +kernel
theorem dX4_pass_38 : decode cX4_pass 38 = .ok (.putfield 229, 3) := by decide +kernel
theorem dX4_pass_41 : decode cX4_pass 41 = .ok (.iload_n 2, 1) := by decide +kernel
theorem dX4_pass_42 : decode cX4_pass 42 = .ok (.ireturn, 1) := by decide +kernel
set_option maxRecDepth 20000 in
theorem ggX4_passAll_X4_pass : GoodIn wsX4_passAll wsX4_pass := goodIn_r _ [18, 19, 20, 21, 22, 23, 24, 25, 26, 27, 28, 29, 30, 31, 32, 33, 34, 35, 36, 37, 38, 39, 40, 41, 42, 43, 44, 45, 46, 47, 48, 49, 50, 51, 52, 53, 54, 55] (by decide +kernel) (by decide +kernel)
set_option maxRecDepth 20000 in
theorem gX4_passAll_X4_pass : GoodIn wsX4_passAll (wsV RX4 232 RX4 yX4_pass wsX4_pass) := goodIn_app (goodIn_of _ (by decide +kernel)) ggX4_passAll_X4_pass
theorem dX4_passAll_0 : decode cX4_passAll 0 = .ok (.aload_n 0, 1) := by decide +kernel
theorem dX4_passAll_1 : decode cX4_passAll 1 = .ok (.aload_n 0, 1) := by decide +kernel
theorem dX4_passAll_2 : decode cX4_passAll 2 = .ok (.aload_n 0, 1) := by decide +kernel
theorem dX4_passAll_3 : decode cX4_passAll 3 = .ok (.getfield 63, 3) := by decide +kernel
theorem dX4_passAll_6 : decode cX4_passAll 6 = .ok (.invokevirtual 232, 3) := by decide +kernel
theorem dX4_passAll_9 : decode cX4_passAll 9 = .ok (.putfield 63, 3) := by decide +kernel
theorem dX4_passAll_12 : decode cX4_passAll 12 = .ok (.aload_n 0, 1) := by decide +kernel
theorem dX4_passAll_13 : decode cX4_passAll 13 = .ok (.aload_n 0, 1) := by decide +kernel
theorem dX4_passAll_14 : decode cX4_passAll 14 = .ok (.aload_n 0, 1) := by decide +kernel
theorem dX4_passAll_15 : decode cX4_passAll 15 = .ok (.getfield 67, 3) := by decide +kernel
theorem dX4_passAll_18 : decode cX4_passAll 18 = .ok (.invokevirtual 232, 3) := by decide +kernel
theorem dX4_passAll_21 : decode cX4_passAll 21 = .ok (.putfield 67, 3) := by decide +kernel
theorem dX4_passAll_24 : decode cX4_passAll 24 = .ok (.aload_n 0, 1) := by decide +kernel
theorem dX4_passAll_25 : decode cX4_passAll 25 = .ok (.aload_n 0, 1) := by decide +kernel
theorem dX4_passAll_26 : decode cX4_passAll 26 = .ok (.aload_n 0, 1) := by decide +kernel
theorem dX4_passAll_27 : decode cX4_passAll 27 = .ok (.getfield 76, 3) := by decide +kernel
theorem dX4_passAll_30 : decode cX4_passAll 30 = .ok (.invokevirtual 232, 3) := by decide +kernel
theorem dX4_passAll_33 : decode cX4_passAll 33 = .ok (.putfield 76, 3) := by decide +kernel
theorem dX4_passAll_36 : decode cX4_passAll 36 = .ok (.aload_n 0, 1) := by decide +kernel
theorem dX4_passAll_37 : decode cX4_passAll 37 = .ok (.aload_n 0, 1) := by decide +kernel
theorem dX4_passAll_38 : decode cX4_passAll 38 = .ok (.aload_n 0, 1) := by decide +kernel
theorem dX4_passAll_39 : decode cX4_passAll 39 = .ok (.getfield 79, 3) := by decide +kernel
theorem dX4_passAll_42 : decode cX4_passAll 42 = .ok (.invokevirtual 232, 3) := by decide +kernel
theorem dX4_passAll_45 : decode cX4_passAll 45 = .ok (.putfield 79, 3) := by decide +kernel
theorem dX4_passAll_48 : decode cX4_passAll 48 = .ok (.aload_n 0, 1) := by decide +kernel
theorem dX4_passAll_49 : decode cX4_passAll 49 = .ok (.aload_n 0, 1) := by decide +kernel
theorem dX4_passAll_50 : decode cX4_passAll 50 = .ok (.aload_n 0, 1) := by decide +kernel
theorem dX4_passAll_51 : decode cX4_passAll 51 = .ok (.getfield 113, 3) := by decide +kernel
theorem dX4_passAll_54 : decode cX4_passAll 54 = .ok (.invokevirtual 232, 3) := by decide +kernel
theorem dX4_passAll_57 : decode cX4_passAll 57 = .ok (.putfield 113, 3) := by decide +kernel
theorem dX4_passAll_60 : decode cX4_passAll 60 = .ok (.aload_n 0, 1) := by decide +kernel
theorem dX4_passAll_61 : decode cX4_passAll 61 = .ok (.aload_n 0, 1) := by decide +kernel
theorem dX4_passAll_62 : decode cX4_passAll 62 = .ok (.aload_n 0, 1) := by decide +kernel
theorem dX4_passAll_63 : decode cX4_passAll 63 = .ok (.getfield 126, 3) := by decide +kernel
theorem dX4_passAll_66 : decode cX4_passAll 66 = .ok (.invokevirtual 232, 3) := by decide +kernel
theorem dX4_passAll_69 : decode cX4_passAll 69 = .ok (.putfield 126, 3) := by decide +kernel
theorem dX4_passAll_72 : decode cX4_passAll 72 = .ok (.iconst 0, 1) := by decide +kernel
theorem dX4_passAll_73 : decode cX4_passAll 73 = .ok (.istore_n 1, 1) := by decide +kernel
theorem dX4_passAll_74 : decode cX4_passAll 74 = .ok (.iload_n 1, 1) := by decide +kernel
theorem dX4_passAll_75 : decode cX4_passAll 75 = .ok (.bipush 6, 2) := by decide +kernel
theorem dX4_passAll_77 : decode cX4_passAll 77 = .ok (.if_icmp .ge 121, 3) := by decide +kernel
theorem dX4_passAll_80 : decode cX4_passAll 80 = .ok (.aload_n 0, 1) := by decide +kernel
theorem dX4_passAll_81 : decode cX4_passAll 81 = .ok (.getfield 7, 3) := by decide +kernel
theorem dX4_passAll_84 : decode cX4_passAll 84 = .ok (.iload_n 1, 1) := by decide +kernel
theorem dX4_passAll_85 : decode cX4_passAll 85 = .ok (.aload_n 0, 1) := by decide +kernel
theorem dX4_passAll_86 : decode cX4_passAll 86 = .ok (.aload_n 0, 1) := by decide +kernel
theorem dX4_passAll_87 : decode cX4_passAll 87 = .ok (.getfield 7, 3) := by decide +kernel
theorem dX4_passAll_90 : decode cX4_passAll 90 = .ok (.iload_n 1, 1) := by decide +kernel
theorem dX4_passAll_91 : decode cX4_passAll 91 = .ok (.iaload, 1) := by decide +kernel
theorem dX4_passAll_92 : decode cX4_passAll 92 = .ok (.invokevirtual 232, 3) := by decide +kernel
theorem dX4_passAll_95 : decode cX4_passAll 95 = .ok (.iastore, 1) := by decide +kernel
theorem dX4_passAll_96 : decode cX4_passAll 96 = .ok (.aload_n 0, 1) := by decide +kernel
theorem dX4_passAll_97 : decode cX4_passAll 97 = .ok (.getfield 13, 3) := by decide +kernel
theorem dX4_passAll_100 : decode cX4_passAll 100 = .ok (.iload_n 1, 1) := by decide +kernel
theorem dX4_passAll_101 : decode cX4_passAll 101 = .ok (.aload_n 0, 1) := by decide +kernel
theorem dX4_passAll_102 : decode cX4_passAll 102 = .ok (.aload_n 0, 1) := by decide +kernel
theorem dX4_passAll_103 : decode cX4_passAll 103 = .ok (.getfield 13, 3) := by decide +kernel
theorem dX4_passAll_106 : decode cX4_passAll 106 = .ok (.iload_n 1, 1) := by decide +kernel
theorem dX4_passAll_107 : decode cX4_passAll 107 = .ok (.iaload, 1) := by decide +kernel
theorem dX4_passAll_108 : decode cX4_passAll 108 = .ok (.invokevirtual 232, 3) := by decide +kernel
theorem dX4_passAll_111 : decode cX4_passAll 111 = .ok (.iastore, 1) := by decide +kernel
theorem dX4_passAll_112 : decode cX4_passAll 112 = .ok (.aload_n 0, 1) := by decide +kernel
theorem dX4_passAll_113 : decode cX4_passAll 113 = .ok (.getfield 16, 3) := by decide +kernel
theorem dX4_passAll_116 : decode cX4_passAll 116 = .ok (.iload_n 1, 1) := by decide +kernel
theorem dX4_passAll_117 : decode cX4_passAll 117 = .ok (.aload_n 0, 1) := by decide +kernel
theorem dX4_passAll_118 : decode cX4_passAll 118 = .ok (.aload_n 0, 1) := by decide +kernel
theorem dX4_passAll_119 : decode cX4_passAll 119 = .ok (.getfield 16, 3) := by decide +kernel
theorem dX4_passAll_122 : decode cX4_passAll 122 = .ok (.iload_n 1, 1) := by decide +kernel
theorem dX4_passAll_123 : decode cX4_passAll 123 = .ok (.iaload, 1) := by decide +kernel
theorem dX4_passAll_124 : decode cX4_passAll 124 = .ok (.invokevirtual 232, 3) := by decide +kernel
theorem dX4_passAll_127 : decode cX4_passAll 127 = .ok (.iastore, 1) := by decide +kernel
theorem dX4_passAll_128 : decode cX4_passAll 128 = .ok (.aload_n 0, 1) := by decide +kernel
theorem dX4_passAll_129 : decode cX4_passAll 129 = .ok (.getfield 19, 3) := by decide +kernel
theorem dX4_passAll_132 : decode cX4_passAll 132 = .ok (.iload_n 1, 1) := by decide +kernel
theorem dX4_passAll_133 : decode cX4_passAll 133 = .ok (.aload_n 0, 1) := by decide +kernel
theorem dX4_passAll_134 : decode cX4_passAll 134 = .ok (.aload_n 0, 1) := by decide +kernel
theorem dX4_passAll_135 : decode cX4_passAll 135 = .ok (.getfield 19, 3) := by decide +kernel
theorem dX4_passAll_138 : decode cX4_passAll 138 = .ok (.iload_n 1, 1) := by decide +kernel
theorem dX4_passAll_139 : decode cX4_passAll 139 = .ok (.iaload, 1) := by decide +kernel
theorem dX4_passAll_140 : decode cX4_passAll 140 = .ok (.invokevirtual 232, 3) := by decide +kernel
theorem dX4_passAll_143 : decode cX4_passAll 143 = .ok (.iastore, 1) := by decide +kernel
theorem dX4_passAll_144 : decode cX4_passAll 144 = .ok (.aload_n 0, 1) := by decide +kernel
theorem dX4_passAll_145 : decode cX4_passAll 145 = .ok (.getfield 22, 3) := by decide +kernel
theorem dX4_passAll_148 : decode cX4_passAll 148 = .ok (.iload_n 1, 1) := by decide +kernel
theorem dX4_passAll_149 : decode cX4_passAll 149 = .ok (.aload_n 0, 1) := by decide +kernel
theorem dX4_passAll_150 : decode cX4_passAll 150 = .ok (.aload_n 0, 1) := by decide +kernel
theorem dX4_passAll_151 : decode cX4_passAll 151 = .ok (.getfield 22, 3) := by decide +kernel
theorem dX4_passAll_154 : decode cX4_passAll 154 = .ok (.iload_n 1, 1) := by decide +kernel
theorem dX4_passAll_155 : decode cX4_passAll 155 = .ok (.iaload, 1) := by decide +kernel
theorem dX4_passAll_156 : decode cX4_passAll 156 = .ok (.invokevirtual 232, 3) := by decide +kernel
theorem dX4_passAll_159 : decode cX4_passAll 159 = .ok (.iastore, 1) := by decide +kernel
theorem dX4_passAll_160 : decode cX4_passAll 160 = .ok (.aload_n 0, 1) := by decide +kernel
theorem dX4_passAll_161 : decode cX4_passAll 161 = .ok (.getfield 25, 3) := by decide +kernel
theorem dX4_passAll_164 : decode cX4_passAll 164 = .ok (.iload_n 1, 1) := by decide +kernel
theorem dX4_passAll_165 : decode cX4_passAll 165 = .ok (.aload_n 0, 1) := by decide +kernel
theorem dX4_passAll_166 : decode cX4_passAll 166 = .ok (.aload_n 0, 1) := by decide +kernel
theorem dX4_passAll_167 : decode cX4_passAll 167 = .ok (.getfield 25, 3) := by decide +kernel
theorem dX4_passAll_170 : decode cX4_passAll 170 = .ok (.iload_n 1, 1) := by decide +kernel
theorem dX4_passAll_171 : decode cX4_passAll 171 = .ok (.iaload, 1) := by decide +kernel
theorem dX4_passAll_172 : decode cX4_passAll 172 = .ok (.invokevirtual 232, 3) := by decide +kernel
theorem dX4_passAll_175 : decode cX4_passAll 175 = .ok (.iastore, 1) := by decide +kernel
theorem dX4_passAll_176 : decode cX4_passAll 176 = .ok (.aload_n 0, 1) := by decide +kernel
theorem dX4_passAll_177 : decode cX4_passAll 177 = .ok (.getfield 28, 3) := by decide +kernel
theorem dX4_passAll_180 : decode cX4_passAll 180 = .ok (.iload_n 1, 1) := by decide +kernel
theorem dX4_passAll_181 : decode cX4_passAll 181 = .ok (.aload_n 0, 1) := by decide +kernel
theorem dX4_passAll_182 : decode cX4_passAll 182 = .ok (.aload_n 0, 1) := by decide +kernel
theorem dX4_passAll_183 : decode cX4_passAll 183 = .ok (.getfield 28, 3) := by decide +kernel
theorem dX4_passAll_186 : decode cX4_passAll 186 = .ok (.iload_n 1, 1) := by decide +kernel
theorem dX4_passAll_187 : decode cX4_passAll 187 = .ok (.iaload, 1) := by decide +kernel
theorem dX4_passAll_188 : decode cX4_passAll 188 = .ok (.invokevirtual 232, 3) := by decide +kernel
theorem dX4_passAll_191 : decode cX4_passAll 191 = .ok (.iastore, 1) := by decide +kernel
theorem dX4_passAll_192 : decode cX4_passAll 192 = .ok (.iinc 1 1, 3) := by decide +kernel
theorem dX4_passAll_195 : decode cX4_passAll 195 = .ok (.goto (-121), 3) := by decide +kernel
theorem dX4_passAll_198 : decode cX4_passAll 198 = .ok (.return_, 1) := by decide +kernel
set_option maxRecDepth 20000 in
theorem ggX4_image_X4_in : GoodIn wsX4_image wsX4_in := goodIn_r _ [7] (by decide +kernel) (by decide +kernel)
set_option maxRecDepth 20000 in
theorem gX4_image_X4_in : GoodIn wsX4_image (va_wsS RX4 72 yX4_in wsX4_in) := goodIn_app (goodIn_of _ (by decide +kernel)) ggX4_image_X4_in
set_option maxRecDepth 20000 in
theorem ggX4_image_X4_passAll : GoodIn wsX4_image wsX4_passAll := goodIn_r _ [11, 12, 13, 14, 15, 16, 17, 18, 19, 20, 21, 22, 23, 24, 25, 26, 27, 6, 28, 2, 29, 1, 30, 31, 32, 33, 34, 35, 36, 37, 38, 39, 40, 41, 42, 43, 44, 45, 46, 47, 48, 49, 50, 51, 52, 53, 54, 55, 56, 57, 58, 59, 60, 61, 62, 63] (by decide +kernel) (by decide +kernel)
set_option maxRecDepth 20000 in
theorem gX4_image_X4_passAll : GoodIn wsX4_image (wsV RX4 235 RX4 yX4_passAll wsX4_passAll) := goodIn_app (goodIn_of _ (by decide +kernel)) ggX4_image_X4_passAll
theorem dX4_image_0 : decode cX4_image 0 = .ok (.iload_n 1, 1) := by decide +kernel
theorem dX4_image_1 : decode cX4_image 1 = .ok (.i2l, 1) := by decide +kernel
theorem dX4_image_2 : decode cX4_image 2 = .ok (.lconst 0, 1) := by decide +kernel
theorem dX4_image_3 : decode cX4_image 3 = .ok (.lconst 1, 1) := by decide +kernel
theorem dX4_image_4 : decode cX4_image 4 = .ok (.invokestatic 72, 3) := by decide +kernel
theorem dX4_image_7 : decode cX4_image 7 = .ok (.ifCond .ne 6, 3) := by decide +kernel
theorem dX4_image_10 : decode cX4_image 10 = .ok (.bipush (-2), 2) := by decide +kernel
theorem dX4_image_12 : decode cX4_image 12 = .ok (.ireturn, 1) := by decide +kernel
theorem dX4_image_13 : decode cX4_image 13 = .ok (.aload_n 0, 1) := by decide +kernel
theorem dX4_image_14 : decode cX4_image 14 = .ok (.bipush 60, 2) := by decide +kernel
theorem dX4_image_16 : decode cX4_image 16 = .ok (.iload_n 1, 1) := by decide +kernel
theorem dX4_image_17 : decode cX4_image 17 = .ok (.imul, 1) := by decide +kernel
theorem dX4_image_18 : decode cX4_image 18 = .ok (.putfield 229, 3) := by decide +kernel
theorem dX4_image_21 : decode cX4_image 21 = .ok (.aload_n 0, 1) := by decide +kernel
theorem dX4_image_22 : decode cX4_image 22 = .ok (.iconst 1, 1) := by decide +kernel
theorem dX4_image_23 : decode cX4_image 23 = .ok (.putfield 226, 3) := by decide +kernel
theorem dX4_image_26 : decode cX4_image 26 = .ok (.aload_n 0, 1) := by decide +kernel
theorem dX4_image_27 : decode cX4_image 27 = .ok (.invokevirtual 235, 3) := by decide +kernel
theorem dX4_image_30 : decode cX4_image 30 = .ok (.aload_n 0, 1) := by decide +kernel
theorem dX4_image_31 : decode cX4_image 31 = .ok (.getfield 60, 3) := by decide +kernel
theorem dX4_image_34 : decode cX4_image 34 = .ok (.iload_n 1, 1) := by decide +kernel
theorem dX4_image_35 : decode cX4_image 35 = .ok (.iconst 1, 1) := by decide +kernel
theorem dX4_image_36 : decode cX4_image 36 = .ok (.bastore, 1) := by decide +kernel
theorem dX4_image_37 : decode cX4_image 37 = .ok (.iconst 1, 1) := by decide +kernel
theorem dX4_image_38 : decode cX4_image 38 = .ok (.ireturn, 1) := by decide +kernel
set_option maxRecDepth 20000 in
theorem ggX4_restore_X4_in : GoodIn wsX4_restore wsX4_in := goodIn_r _ [7] (by decide +kernel) (by decide +kernel)
set_option maxRecDepth 20000 in
theorem gX4_restore_X4_in : GoodIn wsX4_restore (va_wsS RX4 72 yX4_in wsX4_in) := goodIn_app (goodIn_of _ (by decide +kernel)) ggX4_restore_X4_in
set_option maxRecDepth 20000 in
theorem ggX4_restore_X4_passAll : GoodIn wsX4_restore wsX4_passAll := goodIn_r _ [11, 12, 13, 14, 15, 16, 17, 18, 19, 20, 21, 22, 23, 24, 25, 26, 27, 6, 28, 3, 29, 2, 30, 31, 32, 33, 34, 35, 36, 37, 38, 39, 40, 41, 42, 43, 44, 45, 46, 47, 48, 49, 50, 51, 52, 53, 54, 55, 56, 57, 58, 59, 60, 61, 62, 63] (by decide +kernel) (by decide +kernel)
set_option maxRecDepth 20000 in
theorem gX4_restore_X4_passAll : GoodIn wsX4_restore (wsV RX4 235 RX4 yX4_passAll wsX4_passAll) := goodIn_app (goodIn_of _ (by decide +kernel)) ggX4_restore_X4_passAll
theorem dX4_restore_0 : decode cX4_restore 0 = .ok (.iload_n 1, 1) := by decide +kernel
theorem dX4_restore_1 : decode cX4_restore 1 = .ok (.i2l, 1) := by decide +kernel
theorem dX4_restore_2 : decode cX4_restore 2 = .ok (.lconst 0, 1) := by decide +kernel
theorem dX4_restore_3 : decode cX4_restore 3 = .ok (.lconst 1, 1) := by decide +kernel
theorem dX4_restore_4 : decode cX4_restore 4 = .ok (.invokestatic 72, 3) := by decide +kernel
theorem dX4_restore_7 : decode cX4_restore 7 = .ok (.ifCond .ne 6, 3) := by decide +kernel
theorem dX4_restore_10 : decode cX4_restore 10 = .ok (.bipush (-2), 2) := by decide +kernel
theorem dX4_restore_12 : decode cX4_restore 12 = .ok (.ireturn, 1) := by decide +kernel
theorem dX4_restore_13 : decode cX4_restore 13 = .ok (.aload_n 0, 1) := by decide +kernel
theorem dX4_restore_14 : decode cX4_restore 14 = .ok (.getfield 60, 3) := by decide +kernel
theorem dX4_restore_17 : decode cX4_restore 17 = .ok (.iload_n 1, 1) := by decide +kernel
theorem dX4_restore_18 : decode cX4_restore 18 = .ok (.baload, 1) := by decide +kernel
theorem dX4_restore_19 : decode cX4_restore 19 = .ok (.ifCond .ne 6, 3) := by decide +kernel
theorem dX4_restore_22 : decode cX4_restore 22 = .ok (.bipush (-3), 2) := by decide +kernel
theorem dX4_restore_24 : decode cX4_restore 24 = .ok (.ireturn, 1) := by decide +kernel
theorem dX4_restore_25 : decode cX4_restore 25 = .ok (.aload_n 0, 1) := by decide +kernel
theorem dX4_restore_26 : decode cX4_restore 26 = .ok (.bipush 60, 2) := by decide +kernel
theorem dX4_restore_28 : decode cX4_restore 28 = .ok (.iload_n 1, 1) := by decide +kernel
theorem dX4_restore_29 : decode cX4_restore 29 = .ok (.imul, 1) := by decide +kernel
theorem dX4_restore_30 : decode cX4_restore 30 = .ok (.putfield 229, 3) := by decide +kernel
theorem dX4_restore_33 : decode cX4_restore 33 = .ok (.aload_n 0, 1) := by decide +kernel
theorem dX4_restore_34 : decode cX4_restore 34 = .ok (.iconst 0, 1) := by decide +kernel
theorem dX4_restore_35 : decode cX4_restore 35 = .ok (.putfield 226, 3) := by decide +kernel
theorem dX4_restore_38 : decode cX4_restore 38 = .ok (.aload_n 0, 1) := by decide +kernel
theorem dX4_restore_39 : decode cX4_restore 39 = .ok (.invokevirtual 235, 3) := by decide +kernel
theorem dX4_restore_42 : decode cX4_restore 42 = .ok (.iconst 1, 1) := by decide +kernel
theorem dX4_restore_43 : decode cX4_restore 43 = .ok (.ireturn, 1) := by decide +kernel
set_option maxRecDepth 20000 in
theorem ggX4_told_X4_in : GoodIn wsX4_told wsX4_in := goodIn_r _ [13] (by decide +kernel) (by decide +kernel)
set_option maxRecDepth 20000 in
theorem gX4_told_X4_in : GoodIn wsX4_told (va_wsS RX4 72 yX4_in wsX4_in) := goodIn_app (goodIn_of _ (by decide +kernel)) ggX4_told_X4_in
theorem dX4_told_0 : decode cX4_told 0 = .ok (.iload_n 1, 1) := by decide +kernel
theorem dX4_told_1 : decode cX4_told 1 = .ok (.i2l, 1) := by decide +kernel
theorem dX4_told_2 : decode cX4_told 2 = .ok (.ldc2_w 191, 3) := by decide +kernel
theorem dX4_told_5 : decode cX4_told 5 = .ok (.bipush 9, 2) := by decide +kernel
theorem dX4_told_7 : decode cX4_told 7 = .ok (.aload_n 0, 1) := by decide +kernel
theorem dX4_told_8 : decode cX4_told 8 = .ok (.getfield 113, 3) := by decide +kernel
theorem dX4_told_11 : decode cX4_told 11 = .ok (.iadd, 1) := by decide +kernel
theorem dX4_told_12 : decode cX4_told 12 = .ok (.i2l, 1) := by decide +kernel
theorem dX4_told_13 : decode cX4_told 13 = .ok (.invokestatic 72, 3) := by decide +kernel
theorem dX4_told_16 : decode cX4_told 16 = .ok (.ifCond .eq 13, 3) := by decide +kernel
theorem dX4_told_19 : decode cX4_told 19 = .ok (.aload_n 0, 1) := by decide +kernel
theorem dX4_told_20 : decode cX4_told 20 = .ok (.getfield 22, 3) := by decide +kernel
theorem dX4_told_23 : decode cX4_told 23 = .ok (.iload_n 1, 1) := by decide +kernel
theorem dX4_told_24 : decode cX4_told 24 = .ok (.bipush 10, 2) := by decide +kernel
theorem dX4_told_26 : decode cX4_told 26 = .ok (.isub, 1) := by decide +kernel
theorem dX4_told_27 : decode cX4_told 27 = .ok (.iaload, 1) := by decide +kernel
theorem dX4_told_28 : decode cX4_told 28 = .ok (.ireturn, 1) := by decide +kernel
theorem dX4_told_29 : decode cX4_told 29 = .ok (.iload_n 1, 1) := by decide +kernel
theorem dX4_told_30 : decode cX4_told 30 = .ok (.tableswitch 77 0 6 #[42, 47, 52, 57, 62, 67, 72], 42) := by decide +kernel
theorem dX4_told_72 : decode cX4_told 72 = .ok (.aload_n 0, 1) := by decide +kernel
theorem dX4_told_73 : decode cX4_told 73 = .ok (.getfield 86, 3) := by decide +kernel
theorem dX4_told_76 : decode cX4_told 76 = .ok (.ireturn, 1) := by decide +kernel
theorem dX4_told_77 : decode cX4_told 77 = .ok (.aload_n 0, 1) := by decide +kernel
theorem dX4_told_78 : decode cX4_told 78 = .ok (.getfield 63, 3) := by decide +kernel
theorem dX4_told_81 : decode cX4_told 81 = .ok (.ireturn, 1) := by decide +kernel
theorem dX4_told_82 : decode cX4_told 82 = .ok (.aload_n 0, 1) := by decide +kernel
theorem dX4_told_83 : decode cX4_told 83 = .ok (.getfield 67, 3) := by decide +kernel
theorem dX4_told_86 : decode cX4_told 86 = .ok (.ireturn, 1) := by decide +kernel
theorem dX4_told_87 : decode cX4_told 87 = .ok (.aload_n 0, 1) := by decide +kernel
theorem dX4_told_88 : decode cX4_told 88 = .ok (.getfield 76, 3) := by decide +kernel
theorem dX4_told_91 : decode cX4_told 91 = .ok (.ireturn, 1) := by decide +kernel
theorem dX4_told_92 : decode cX4_told 92 = .ok (.aload_n 0, 1) := by decide +kernel
theorem dX4_told_93 : decode cX4_told 93 = .ok (.getfield 79, 3) := by decide +kernel
theorem dX4_told_96 : decode cX4_told 96 = .ok (.ireturn, 1) := by decide +kernel
theorem dX4_told_97 : decode cX4_told 97 = .ok (.aload_n 0, 1) := by decide +kernel
theorem dX4_told_98 : decode cX4_told 98 = .ok (.getfield 113, 3) := by decide +kernel
theorem dX4_told_101 : decode cX4_told 101 = .ok (.ireturn, 1) := by decide +kernel
theorem dX4_told_102 : decode cX4_told 102 = .ok (.aload_n 0, 1) := by decide +kernel
theorem dX4_told_103 : decode cX4_told 103 = .ok (.getfield 126, 3) := by decide +kernel
theorem dX4_told_106 : decode cX4_told 106 = .ok (.ireturn, 1) := by decide +kernel
theorem dX4_told_107 : decode cX4_told 107 = .ok (.bipush (-2), 2) := by decide +kernel
theorem dX4_told_109 : decode cX4_told 109 = .ok (.ireturn, 1) := by decide +kernel
theorem dJ6_bitCount_0f7a4_0 : decode cJ6_bitCount_0f7a4 0 = .ok (.iload_n 0, 1) := by decide +kernel
theorem dJ6_bitCount_0f7a4_1 : decode cJ6_bitCount_0f7a4 1 = .ok (.iload_n 0, 1) := by decide +kernel
theorem dJ6_bitCount_0f7a4_2 : decode cJ6_bitCount_0f7a4 2 = .ok (.iconst 1, 1) := by decide +kernel
theorem dJ6_bitCount_0f7a4_3 : decode cJ6_bitCount_0f7a4 3 = .ok (.iushr, 1) := by decide +kernel
theorem dJ6_bitCount_0f7a4_4 : decode cJ6_bitCount_0f7a4 4 = .ok (.ldc_w 265, 3) := by decide +kernel
theorem dJ6_bitCount_0f7a4_7 : decode cJ6_bitCount_0f7a4 7 = .ok (.iand, 1) := by decide +kernel
theorem dJ6_bitCount_0f7a4_8 : decode cJ6_bitCount_0f7a4 8 = .ok (.isub, 1) := by decide +kernel
theorem dJ6_bitCount_0f7a4_9 : decode cJ6_bitCount_0f7a4 9 = .ok (.istore_n 0, 1) := by decide +kernel
theorem dJ6_bitCount_0f7a4_10 : decode cJ6_bitCount_0f7a4 10 = .ok (.iload_n 0, 1) := by decide +kernel
theorem dJ6_bitCount_0f7a4_11 : decode cJ6_bitCount_0f7a4 11 = .ok (.ldc_w 266, 3) := by decide +kernel
theorem dJ6_bitCount_0f7a4_14 : decode cJ6_bitCount_0f7a4 14 = .ok (.iand, 1) := by decide +kernel
theorem dJ6_bitCount_0f7a4_15 : decode cJ6_bitCount_0f7a4 15 = .ok (.iload_n 0, 1) := by decide +kernel
theorem dJ6_bitCount_0f7a4_16 : decode cJ6_bitCount_0f7a4 16 = .ok (.iconst 2, 1) := by decide +kernel
theorem dJ6_bitCount_0f7a4_17 : decode cJ6_bitCount_0f7a4 17 = .ok (.iushr, 1) := by decide +kernel
theorem dJ6_bitCount_0f7a4_18 : decode cJ6_bitCount_0f7a4 18 = .ok (.ldc_w 266, 3) := by decide +kernel
theorem dJ6_bitCount_0f7a4_21 : decode cJ6_bitCount_0f7a4 21 = .ok (.iand, 1) := by decide +kernel
theorem dJ6_bitCount_0f7a4_22 : decode cJ6_bitCount_0f7a4 22 = .ok (.iadd, 1) := by decide +kernel
theorem dJ6_bitCount_0f7a4_23 : decode cJ6_bitCount_0f7a4 23 = .ok (.istore_n 0, 1) := by decide +kernel
theorem dJ6_bitCount_0f7a4_24 : decode cJ6_bitCount_0f7a4 24 = .ok (.iload_n 0, 1) := by decide +kernel
theorem dJ6_bitCount_0f7a4_25 : decode cJ6_bitCount_0f7a4 25 = .ok (.iload_n 0, 1) := by decide +kernel
theorem dJ6_bitCount_0f7a4_26 : decode cJ6_bitCount_0f7a4 26 = .ok (.iconst 4, 1) := by decide +kernel
theorem dJ6_bitCount_0f7a4_27 : decode cJ6_bitCount_0f7a4 27 = .ok (.iushr, 1) := by decide +kernel
theorem dJ6_bitCount_0f7a4_28 : decode cJ6_bitCount_0f7a4 28 = .ok (.iadd, 1) := by decide +kernel
theorem dJ6_bitCount_0f7a4_29 : decode cJ6_bitCount_0f7a4 29 = .ok (.ldc_w 267, 3) := by decide +kernel
theorem dJ6_bitCount_0f7a4_32 : decode cJ6_bitCount_0f7a4 32 = .ok (.iand, 1) := by decide +kernel
theorem dJ6_bitCount_0f7a4_33 : decode cJ6_bitCount_0f7a4 33 = .ok (.istore_n 0, 1) := by decide +kernel
theorem dJ6_bitCount_0f7a4_34 : decode cJ6_bitCount_0f7a4 34 = .ok (.iload_n 0, 1) := by decide +kernel
theorem dJ6_bitCount_0f7a4_35 : decode cJ6_bitCount_0f7a4 35 = .ok (.iload_n 0, 1) := by decide +kernel
theorem dJ6_bitCount_0f7a4_36 : decode cJ6_bitCount_0f7a4 36 = .ok (.bipush 8, 2) := by decide +kernel
theorem dJ6_bitCount_0f7a4_38 : decode cJ6_bitCount_0f7a4 38 = .ok (.iushr, 1) := by decide +kernel
theorem dJ6_bitCount_0f7a4_39 : decode cJ6_bitCount_0f7a4 39 = .ok (.iadd, 1) := by decide +kernel
theorem dJ6_bitCount_0f7a4_40 : decode cJ6_bitCount_0f7a4 40 = .ok (.istore_n 0, 1) := by decide +kernel
theorem dJ6_bitCount_0f7a4_41 : decode cJ6_bitCount_0f7a4 41 = .ok (.iload_n 0, 1) := by decide +kernel
theorem dJ6_bitCount_0f7a4_42 : decode cJ6_bitCount_0f7a4 42 = .ok (.iload_n 0, 1) := by decide +kernel
theorem dJ6_bitCount_0f7a4_43 : decode cJ6_bitCount_0f7a4 43 = .ok (.bipush 16, 2) := by decide +kernel
theorem dJ6_bitCount_0f7a4_45 : decode cJ6_bitCount_0f7a4 45 = .ok (.iushr, 1) := by decide +kernel
theorem dJ6_bitCount_0f7a4_46 : decode cJ6_bitCount_0f7a4 46 = .ok (.iadd, 1) := by decide +kernel
theorem dJ6_bitCount_0f7a4_47 : decode cJ6_bitCount_0f7a4 47 = .ok (.istore_n 0, 1) := by decide +kernel
theorem dJ6_bitCount_0f7a4_48 : decode cJ6_bitCount_0f7a4 48 = .ok (.iload_n 0, 1) := by decide +kernel
theorem dJ6_bitCount_0f7a4_49 : decode cJ6_bitCount_0f7a4 49 = .ok (.bipush 63, 2) := by decide +kernel
theorem dJ6_bitCount_0f7a4_51 : decode cJ6_bitCount_0f7a4 51 = .ok (.iand, 1) := by decide +kernel
theorem dJ6_bitCount_0f7a4_52 : decode cJ6_bitCount_0f7a4 52 = .ok (.ireturn, 1) := by decide +kernel
set_option maxRecDepth 20000 in
theorem ggL_law_X3_init : GoodIn wsL_law wsX3_init := goodIn_r _ [8, 9, 10, 11, 12, 13, 14, 15, 16, 17, 18, 19, 20, 21, 22, 23, 24, 25, 26, 27, 28, 29, 30, 31, 32, 33, 34, 35, 36, 37, 38, 39, 40, 41, 42, 43, 44, 45, 46, 47, 48, 49, 50, 51, 52, 53, 54, 55, 56, 57, 58, 59, 60, 61, 62, 63, 64, 65, 66, 622, 623, 624, 625, 626, 627, 628, 629, 664, 665, 666, 667, 668, 669, 670, 671, 672, 673, 674, 675, 676, 677, 678, 679, 680, 681, 682, 683, 684, 685, 686, 687, 688, 689, 690, 691] (by decide +kernel) (by decide +kernel)
set_option maxRecDepth 20000 in
theorem gL_law_X3_init : GoodIn wsL_law (wsX3_init) := ggL_law_X3_init
set_option maxRecDepth 20000 in
theorem ggL_law_X4_init : GoodIn wsL_law wsX4_init := goodIn_r _ [69, 70, 10, 11, 12, 71, 72, 73, 74, 75, 76, 77, 78, 79, 80, 81, 82, 83, 84, 85, 86, 87, 88, 89, 90, 91, 630, 631, 632, 633, 634, 635, 636, 637, 638, 639, 640, 641, 642, 643, 644, 645, 646, 647, 648, 649, 650, 651, 652, 653, 654, 655, 656, 657, 658, 659, 660, 661, 662, 663] (by decide +kernel) (by decide +kernel)
set_option maxRecDepth 20000 in
theorem gL_law_X4_init : GoodIn wsL_law (wsX4_init) := ggL_law_X4_init
set_option maxRecDepth 20000 in
theorem ggL_law_X3_set : GoodIn wsL_law wsX3_set := goodIn_r _ [95, 18, 96, 97, 2, 98, 99, 100, 101, 102, 103, 104, 17, 105, 33, 34, 35, 36, 106, 107, 108, 109, 622, 623, 624, 625, 626, 627, 628, 629, 664, 665, 666, 667, 668, 669, 670, 671, 672, 673, 674, 675, 676, 677] (by decide +kernel) (by decide +kernel)
set_option maxRecDepth 20000 in
theorem gL_law_X3_set : GoodIn wsL_law (wsV RL 13 RX3 yX3_set wsX3_set) := goodIn_app (goodIn_of _ (by decide +kernel)) ggL_law_X3_set
set_option maxRecDepth 20000 in
theorem ggL_law_X4_set : GoodIn wsL_law wsX4_set := goodIn_r _ [113, 114, 90, 91, 115, 116, 117, 118, 5, 119, 630, 631, 632, 633, 634, 635, 636, 637, 638, 639, 640, 641, 642, 643, 644, 645, 646, 647, 648, 649, 650, 651, 652, 653, 654, 655, 656, 657, 658, 659, 660, 661, 662, 663] (by decide +kernel) (by decide +kernel)
set_option maxRecDepth 20000 in
theorem gL_law_X4_set : GoodIn wsL_law (wsV RL 17 RX4 yX4_set wsX4_set) := goodIn_app (goodIn_of _ (by decide +kernel)) ggL_law_X4_set
set_option maxRecDepth 20000 in
theorem ggL_law_X3_say : GoodIn wsL_law wsX3_say := goodIn_r _ [123, 14, 13, 99, 100, 2, 101, 124, 125, 126, 622, 623, 624, 625, 626, 627, 628, 629] (by decide +kernel) (by decide +kernel)
set_option maxRecDepth 20000 in
theorem gL_law_X3_say : GoodIn wsL_law (wsV RL 18 RX3 yX3_say wsX3_say) := goodIn_app (goodIn_of _ (by decide +kernel)) ggL_law_X3_say
set_option maxRecDepth 20000 in
theorem ggL_law_X4_say : GoodIn wsL_law wsX4_say := goodIn_r _ [130, 131, 132, 133, 78, 117, 118, 5, 119, 630, 631, 632, 633, 634, 635, 636, 637, 638, 639, 640, 641, 642, 643, 644, 645, 646, 647, 648, 649, 650, 651, 652, 653, 654, 655, 656, 657, 658, 659, 660, 661, 662, 663] (by decide +kernel) (by decide +kernel)
set_option maxRecDepth 20000 in
theorem gL_law_X4_say : GoodIn wsL_law (wsV RL 22 RX4 yX4_say wsX4_say) := goodIn_app (goodIn_of _ (by decide +kernel)) ggL_law_X4_say
set_option maxRecDepth 20000 in
theorem ggL_law_X3_wipe : GoodIn wsL_law wsX3_wipe := goodIn_r _ [137, 14, 622, 623, 624, 625, 626, 627, 628, 629] (by decide +kernel) (by decide +kernel)
set_option maxRecDepth 20000 in
theorem gL_law_X3_wipe : GoodIn wsL_law (wsV RL 23 RX3 yX3_wipe wsX3_wipe) := goodIn_app (goodIn_of _ (by decide +kernel)) ggL_law_X3_wipe
set_option maxRecDepth 20000 in
theorem ggL_law_X4_wipe : GoodIn wsL_law wsX4_wipe := goodIn_r _ [141, 133, 630, 631, 632, 633, 634, 635, 636, 637, 638, 639, 640, 641, 642, 643, 644, 645, 646, 647, 648, 649, 650, 651, 652, 653, 654, 655, 656, 657, 658, 659, 660, 661, 662, 663] (by decide +kernel) (by decide +kernel)
set_option maxRecDepth 20000 in
theorem gL_law_X4_wipe : GoodIn wsL_law (wsV RL 27 RX4 yX4_wipe wsX4_wipe) := goodIn_app (goodIn_of _ (by decide +kernel)) ggL_law_X4_wipe
set_option maxRecDepth 20000 in
theorem ggL_law_X3_fault : GoodIn wsL_law wsX3_fault := goodIn_r _ [145, 27, 13, 14, 146, 147, 148, 26, 149, 62, 59, 150, 151, 152, 153, 60, 61, 154, 2, 155, 156, 157, 158, 159, 63, 64, 100, 101, 160, 161, 162, 163, 164, 165, 166, 167, 125, 126, 168, 169, 170, 171, 65, 66, 172, 173, 174, 175, 176, 177, 178, 179, 18, 180, 181, 182, 183, 184, 185, 99, 622, 623, 624, 625, 626, 627, 628, 629, 684, 685, 686, 687, 688, 689, 690, 691, 664, 665, 666, 667, 668, 669, 670, 671, 672, 673, 674, 675, 676, 677] (by decide +kernel) (by decide +kernel)
set_option maxRecDepth 20000 in
theorem gL_law_X3_fault : GoodIn wsL_law (wsV RL 28 RX3 yX3_fault wsX3_fault) := goodIn_app (goodIn_of _ (by decide +kernel)) ggL_law_X3_fault
set_option maxRecDepth 20000 in
theorem ggL_law_X4_fault : GoodIn wsL_law wsX4_fault := goodIn_r _ [189, 190, 191, 192, 5, 193, 194, 195, 196, 197, 133, 78, 198, 199, 200, 201, 202, 203, 117, 118, 119, 204, 205, 206, 207, 208, 209, 210, 211, 212, 213, 214, 215, 216, 630, 631, 632, 633, 634, 635, 636, 637, 638, 639, 640, 641, 642, 643, 644, 645, 646, 647, 648, 649, 650, 651, 652, 653, 654, 655, 656, 657, 658, 659, 660, 661, 662, 663] (by decide +kernel) (by decide +kernel)
set_option maxRecDepth 20000 in
theorem gL_law_X4_fault : GoodIn wsL_law (wsV RL 31 RX4 yX4_fault wsX4_fault) := goodIn_app (goodIn_of _ (by decide +kernel)) ggL_law_X4_fault
set_option maxRecDepth 20000 in
theorem ggL_law_X3_suits : GoodIn wsL_law wsX3_suits := goodIn_r _ [220, 27, 13, 14, 18, 180, 146, 147, 148, 26, 149, 62, 59, 150, 151, 152, 153, 60, 61, 154, 2, 155, 156, 157, 158, 159, 63, 64, 100, 101, 160, 161, 162, 163, 164, 165, 166, 167, 125, 126, 168, 169, 170, 171, 65, 66, 172, 173, 174, 175, 221, 222, 223, 17, 224, 225, 37, 226, 40, 227, 41, 228, 42, 229, 43, 44, 38, 230, 231, 181, 622, 623, 624, 625, 626, 627, 628, 629, 664, 665, 666, 667, 668, 669, 670, 671, 672, 673, 674, 675, 676, 677, 684, 685, 686, 687, 688, 689, 690, 691] (by decide +kernel) (by decide +kernel)
set_option maxRecDepth 20000 in
theorem gL_law_X3_suits : GoodIn wsL_law (wsV RL 32 RX3 yX3_suits wsX3_suits) := goodIn_app (goodIn_of _ (by decide +kernel)) ggL_law_X3_suits
set_option maxRecDepth 20000 in
theorem ggL_law_X4_suits : GoodIn wsL_law wsX4_suits := goodIn_r _ [235, 197, 212, 133, 78, 202, 203, 71, 72, 73, 74, 75, 236, 190, 191, 192, 5, 193, 194, 195, 196, 198, 199, 200, 201, 117, 118, 119, 204, 205, 206, 207, 630, 631, 632, 633, 634, 635, 636, 637, 638, 639, 640, 641, 642, 643, 644, 645, 646, 647, 648, 649, 650, 651, 652, 653, 654, 655, 656, 657, 658, 659, 660, 661, 662, 663] (by decide +kernel) (by decide +kernel)
set_option maxRecDepth 20000 in
theorem gL_law_X4_suits : GoodIn wsL_law (wsV RL 35 RX4 yX4_suits wsX4_suits) := goodIn_app (goodIn_of _ (by decide +kernel)) ggL_law_X4_suits
set_option maxRecDepth 20000 in
theorem ggL_law_X3_lay : GoodIn wsL_law wsX3_lay := goodIn_r _ [240, 18, 180, 241, 13, 14, 176, 177, 178, 2, 179, 181, 154, 155, 182, 183, 184, 185, 99, 100, 101, 124, 125, 126, 622, 623, 624, 625, 626, 627, 628, 629, 664, 665, 666, 667, 668, 669, 670, 671, 672, 673, 674, 675, 676, 677] (by decide +kernel) (by decide +kernel)
set_option maxRecDepth 20000 in
theorem gL_law_X3_lay : GoodIn wsL_law (wsV RL 36 RX3 yX3_lay wsX3_lay) := goodIn_app (goodIn_of _ (by decide +kernel)) ggL_law_X3_lay
set_option maxRecDepth 20000 in
theorem ggL_law_X4_lay : GoodIn wsL_law wsX4_lay := goodIn_r _ [245, 212, 75, 78, 133, 208, 209, 210, 5, 211, 213, 214, 215, 216, 117, 118, 119, 630, 631, 632, 633, 634, 635, 636, 637, 638, 639, 640, 641, 642, 643, 644, 645, 646, 647, 648, 649, 650, 651, 652, 653, 654, 655, 656, 657, 658, 659, 660, 661, 662, 663] (by decide +kernel) (by decide +kernel)
set_option maxRecDepth 20000 in
theorem gL_law_X4_lay : GoodIn wsL_law (wsV RL 39 RX4 yX4_lay wsX4_lay) := goodIn_app (goodIn_of _ (by decide +kernel)) ggL_law_X4_lay
set_option maxRecDepth 20000 in
theorem ggL_law_X3_suit : GoodIn wsL_law wsX3_suit := goodIn_r _ [249, 18, 250, 251, 252, 253, 182, 183, 184, 2, 185, 180, 99, 100, 101, 181, 154, 155, 622, 623, 624, 625, 626, 627, 628, 629, 664, 665, 666, 667, 668, 669, 670, 671, 672, 673, 674, 675, 676, 677] (by decide +kernel) (by decide +kernel)
set_option maxRecDepth 20000 in
theorem gL_law_X3_suit : GoodIn wsL_law (wsV RL 40 RX3 yX3_suit wsX3_suit) := goodIn_app (goodIn_of _ (by decide +kernel)) ggL_law_X3_suit
set_option maxRecDepth 20000 in
theorem ggL_law_X4_suit : GoodIn wsL_law wsX4_suit := goodIn_r _ [257, 71, 72, 73, 74, 213, 214, 215, 5, 216, 212, 117, 118, 119, 630, 631, 632, 633, 634, 635, 636, 637, 638, 639, 640, 641, 642, 643, 644, 645, 646, 647, 648, 649, 650, 651, 652, 653, 654, 655, 656, 657, 658, 659, 660, 661, 662, 663] (by decide +kernel) (by decide +kernel)
set_option maxRecDepth 20000 in
theorem gL_law_X4_suit : GoodIn wsL_law (wsV RL 43 RX4 yX4_suit wsX4_suit) := goodIn_app (goodIn_of _ (by decide +kernel)) ggL_law_X4_suit
set_option maxRecDepth 20000 in
theorem ggL_law_X3_day : GoodIn wsL_law wsX3_day := goodIn_r _ [261, 18, 23, 262, 263, 99, 100, 2, 101, 264, 265, 266, 17, 267, 33, 34, 268, 269, 270, 271, 35, 272, 273, 274, 275, 276, 277, 241, 278, 279, 280, 22, 281, 50, 51, 52, 53, 54, 55, 282, 154, 155, 283, 284, 285, 286, 40, 41, 287, 288, 289, 290, 291, 292, 293, 294, 295, 296, 297, 622, 623, 624, 625, 626, 627, 628, 629, 678, 679, 680, 681, 682, 683, 664, 665, 666, 667, 668, 669, 670, 671, 672, 673, 674, 675, 676, 677] (by decide +kernel) (by decide +kernel)
set_option maxRecDepth 20000 in
theorem gL_law_X3_day : GoodIn wsL_law (wsV RL 44 RX3 yX3_day wsX3_day) := goodIn_app (goodIn_of _ (by decide +kernel)) ggL_law_X3_day
set_option maxRecDepth 20000 in
theorem ggL_law_X4_day : GoodIn wsL_law wsX4_day := goodIn_r _ [301, 302, 303, 304, 305, 117, 118, 5, 119, 306, 307, 308, 309, 310, 311, 312, 313, 79, 75, 80, 212, 314, 90, 91, 315, 316, 317, 318, 115, 319, 320, 321, 322, 82, 323, 324, 325, 326, 74, 73, 116, 327, 328, 329, 330, 71, 72, 630, 631, 632, 633, 634, 635, 636, 637, 638, 639, 640, 641, 642, 643, 644, 645, 646, 647, 648, 649, 650, 651, 652, 653, 654, 655, 656, 657, 658, 659, 660, 661, 662, 663] (by decide +kernel) (by decide +kernel)
set_option maxRecDepth 20000 in
theorem gL_law_X4_day : GoodIn wsL_law (wsV RL 47 RX4 yX4_day wsX4_day) := goodIn_app (goodIn_of _ (by decide +kernel)) ggL_law_X4_day
set_option maxRecDepth 20000 in
theorem ggL_law_X3_over : GoodIn wsL_law wsX3_over := goodIn_r _ [334, 18, 182, 183, 184, 2, 185, 180, 99, 100, 101, 335, 336, 337, 17, 338, 44, 339, 340, 341, 342, 37, 154, 155, 343, 284, 285, 286, 40, 41, 344, 345, 346, 347, 23, 263, 262, 274, 275, 276, 277, 241, 264, 265, 266, 267, 33, 34, 268, 269, 270, 271, 35, 272, 273, 278, 279, 280, 22, 281, 50, 51, 52, 53, 54, 55, 282, 283, 287, 288, 289, 290, 291, 292, 293, 294, 295, 296, 297, 348, 622, 623, 624, 625, 626, 627, 628, 629, 664, 665, 666, 667, 668, 669, 670, 671, 672, 673, 674, 675, 676, 677, 678, 679, 680, 681, 682, 683] (by decide +kernel) (by decide +kernel)
set_option maxRecDepth 20000 in
theorem gL_law_X3_over : GoodIn wsL_law (wsV RL 48 RX3 yX3_over wsX3_over) := goodIn_app (goodIn_of _ (by decide +kernel)) ggL_law_X3_over
set_option maxRecDepth 20000 in
theorem ggL_law_X4_over : GoodIn wsL_law wsX4_over := goodIn_r _ [352, 304, 213, 214, 215, 5, 216, 212, 117, 118, 119, 306, 307, 308, 309, 310, 311, 312, 313, 79, 75, 80, 314, 90, 91, 303, 315, 316, 317, 318, 115, 319, 320, 321, 322, 82, 323, 324, 325, 326, 305, 74, 73, 116, 327, 328, 329, 330, 71, 72, 353, 354, 355, 356, 357, 358, 359, 360, 630, 631, 632, 633, 634, 635, 636, 637, 638, 639, 640, 641, 642, 643, 644, 645, 646, 647, 648, 649, 650, 651, 652, 653, 654, 655, 656, 657, 658, 659, 660, 661, 662, 663] (by decide +kernel) (by decide +kernel)
set_option maxRecDepth 20000 in
theorem gL_law_X4_over : GoodIn wsL_law (wsV RL 51 RX4 yX4_over wsX4_over) := goodIn_app (goodIn_of _ (by decide +kernel)) ggL_law_X4_over
set_option maxRecDepth 20000 in
theorem ggL_law_X3_won : GoodIn wsL_law wsX3_won := goodIn_r _ [364, 23, 365, 366, 2, 367, 99, 100, 101, 274, 275, 276, 277, 18, 241, 264, 265, 266, 17, 267, 33, 34, 268, 269, 270, 271, 35, 272, 273, 278, 279, 280, 22, 281, 50, 51, 52, 53, 54, 55, 282, 154, 155, 283, 284, 285, 286, 40, 41, 287, 288, 289, 290, 291, 292, 293, 294, 295, 296, 297, 368, 369, 370, 371, 622, 623, 624, 625, 626, 627, 628, 629, 664, 665, 666, 667, 668, 669, 670, 671, 672, 673, 674, 675, 676, 677, 678, 679, 680, 681, 682, 683] (by decide +kernel) (by decide +kernel)
set_option maxRecDepth 20000 in
theorem gL_law_X3_won : GoodIn wsL_law (wsV RL 52 RX3 yX3_won wsX3_won) := goodIn_app (goodIn_of _ (by decide +kernel)) ggL_law_X3_won
set_option maxRecDepth 20000 in
theorem ggL_law_X4_won : GoodIn wsL_law wsX4_won := goodIn_r _ [375, 82, 376, 377, 5, 378, 114, 117, 118, 119, 306, 307, 308, 309, 310, 311, 312, 313, 79, 75, 80, 212, 314, 90, 91, 303, 315, 316, 317, 318, 115, 319, 320, 321, 322, 323, 324, 325, 326, 304, 305, 74, 73, 116, 327, 328, 329, 330, 71, 72, 630, 631, 632, 633, 634, 635, 636, 637, 638, 639, 640, 641, 642, 643, 644, 645, 646, 647, 648, 649, 650, 651, 652, 653, 654, 655, 656, 657, 658, 659, 660, 661, 662, 663] (by decide +kernel) (by decide +kernel)
set_option maxRecDepth 20000 in
theorem gL_law_X4_won : GoodIn wsL_law (wsV RL 55 RX4 yX4_won wsX4_won) := goodIn_app (goodIn_of _ (by decide +kernel)) ggL_law_X4_won
set_option maxRecDepth 20000 in
theorem ggL_law_X3_order : GoodIn wsL_law wsX3_order := goodIn_r _ [382, 18, 180, 29, 365, 366, 2, 367, 99, 100, 101, 383, 384, 385, 386, 28, 23, 124, 125, 126, 264, 265, 266, 17, 267, 33, 34, 268, 269, 270, 271, 35, 272, 273, 278, 279, 280, 22, 281, 50, 51, 52, 53, 54, 55, 282, 154, 155, 283, 284, 285, 286, 40, 41, 287, 288, 289, 290, 291, 292, 293, 294, 295, 296, 297, 368, 369, 370, 371, 387, 230, 231, 181, 388, 389, 390, 391, 392, 393, 622, 623, 624, 625, 626, 627, 628, 629, 664, 665, 666, 667, 668, 669, 670, 671, 672, 673, 674, 675, 676, 677, 678, 679, 680, 681, 682, 683] (by decide +kernel) (by decide +kernel)
set_option maxRecDepth 20000 in
theorem gL_law_X3_order : GoodIn wsL_law (wsV RL 56 RX3 yX3_order wsX3_order) := goodIn_app (goodIn_of _ (by decide +kernel)) ggL_law_X3_order
set_option maxRecDepth 20000 in
theorem ggL_law_X4_order : GoodIn wsL_law wsX4_order := goodIn_r _ [397, 212, 398, 82, 83, 79, 376, 377, 5, 378, 114, 117, 118, 119, 310, 311, 312, 313, 75, 80, 314, 90, 91, 303, 315, 316, 317, 318, 115, 319, 320, 321, 322, 399, 400, 401, 402, 323, 324, 325, 326, 304, 305, 74, 73, 116, 327, 328, 329, 330, 71, 72, 213, 214, 215, 216, 630, 631, 632, 633, 634, 635, 636, 637, 638, 639, 640, 641, 642, 643, 644, 645, 646, 647, 648, 649, 650, 651, 652, 653, 654, 655, 656, 657, 658, 659, 660, 661, 662, 663] (by decide +kernel) (by decide +kernel)
set_option maxRecDepth 20000 in
theorem gL_law_X4_order : GoodIn wsL_law (wsV RL 59 RX4 yX4_order wsX4_order) := goodIn_app (goodIn_of _ (by decide +kernel)) ggL_law_X4_order
set_option maxRecDepth 20000 in
theorem ggL_law_X3_wax : GoodIn wsL_law wsX3_wax := goodIn_r _ [406, 18, 407, 408, 409, 410, 2, 411, 180, 99, 100, 101, 412, 413, 414, 415, 335, 336, 337, 17, 338, 44, 339, 340, 341, 342, 37, 154, 155, 343, 284, 285, 286, 40, 41, 416, 269, 270, 271, 35, 272, 273, 622, 623, 624, 625, 626, 627, 628, 629, 664, 665, 666, 667, 668, 669, 670, 671, 672, 673, 674, 675, 676, 677] (by decide +kernel) (by decide +kernel)
set_option maxRecDepth 20000 in
theorem gL_law_X3_wax : GoodIn wsL_law (wsV RL 60 RX3 yX3_wax wsX3_wax) := goodIn_app (goodIn_of _ (by decide +kernel)) ggL_law_X3_wax
set_option maxRecDepth 20000 in
theorem ggL_law_X4_wax : GoodIn wsL_law wsX4_wax := goodIn_r _ [420, 91, 421, 422, 423, 5, 424, 212, 117, 118, 119, 425, 426, 427, 428, 357, 358, 359, 360, 71, 75, 72, 353, 354, 355, 356, 315, 316, 317, 318, 115, 630, 631, 632, 633, 634, 635, 636, 637, 638, 639, 640, 641, 642, 643, 644, 645, 646, 647, 648, 649, 650, 651, 652, 653, 654, 655, 656, 657, 658, 659, 660, 661, 662, 663] (by decide +kernel) (by decide +kernel)
set_option maxRecDepth 20000 in
theorem gL_law_X4_wax : GoodIn wsL_law (wsV RL 63 RX4 yX4_wax wsX4_wax) := goodIn_app (goodIn_of _ (by decide +kernel)) ggL_law_X4_wax
set_option maxRecDepth 20000 in
theorem ggL_law_X3_finger : GoodIn wsL_law wsX3_finger := goodIn_r _ [432, 18, 433, 407, 408, 409, 410, 2, 411, 180, 99, 100, 101, 412, 413, 414, 415, 335, 336, 337, 17, 338, 44, 339, 340, 341, 342, 37, 154, 155, 343, 284, 285, 286, 40, 41, 434, 272, 273, 622, 623, 624, 625, 626, 627, 628, 629, 664, 665, 666, 667, 668, 669, 670, 671, 672, 673, 674, 675, 676, 677] (by decide +kernel) (by decide +kernel)
set_option maxRecDepth 20000 in
theorem gL_law_X3_finger : GoodIn wsL_law (wsV RL 64 RX3 yX3_finger wsX3_finger) := goodIn_app (goodIn_of _ (by decide +kernel)) ggL_law_X3_finger
set_option maxRecDepth 20000 in
theorem ggL_law_X4_finger : GoodIn wsL_law wsX4_finger := goodIn_r _ [438, 90, 91, 421, 422, 423, 5, 424, 212, 117, 118, 119, 425, 426, 427, 428, 357, 358, 359, 360, 71, 75, 72, 353, 354, 355, 356, 630, 631, 632, 633, 634, 635, 636, 637, 638, 639, 640, 641, 642, 643, 644, 645, 646, 647, 648, 649, 650, 651, 652, 653, 654, 655, 656, 657, 658, 659, 660, 661, 662, 663] (by decide +kernel) (by decide +kernel)
set_option maxRecDepth 20000 in
theorem gL_law_X4_finger : GoodIn wsL_law (wsV RL 67 RX4 yX4_finger wsX4_finger) := goodIn_app (goodIn_of _ (by decide +kernel)) ggL_law_X4_finger
set_option maxRecDepth 20000 in
theorem ggL_law_X3_drawnOut : GoodIn wsL_law wsX3_drawnOut := goodIn_r _ [442, 18, 182, 183, 184, 2, 185, 180, 99, 100, 101, 264, 265, 266, 17, 267, 33, 34, 268, 269, 270, 271, 35, 272, 273, 335, 336, 337, 338, 44, 339, 340, 341, 342, 37, 154, 155, 343, 284, 285, 286, 40, 41, 622, 623, 624, 625, 626, 627, 628, 629, 664, 665, 666, 667, 668, 669, 670, 671, 672, 673, 674, 675, 676, 677] (by decide +kernel) (by decide +kernel)
set_option maxRecDepth 20000 in
theorem gL_law_X3_drawnOut : GoodIn wsL_law (wsV RL 68 RX3 yX3_drawnOut wsX3_drawnOut) := goodIn_app (goodIn_of _ (by decide +kernel)) ggL_law_X3_drawnOut
set_option maxRecDepth 20000 in
theorem ggL_law_X4_drawnOut : GoodIn wsL_law wsX4_drawnOut := goodIn_r _ [446, 90, 91, 213, 214, 215, 5, 216, 212, 117, 118, 119, 315, 316, 317, 318, 115, 357, 358, 359, 360, 71, 75, 72, 353, 354, 355, 356, 630, 631, 632, 633, 634, 635, 636, 637, 638, 639, 640, 641, 642, 643, 644, 645, 646, 647, 648, 649, 650, 651, 652, 653, 654, 655, 656, 657, 658, 659, 660, 661, 662, 663] (by decide +kernel) (by decide +kernel)
set_option maxRecDepth 20000 in
theorem gL_law_X4_drawnOut : GoodIn wsL_law (wsV RL 71 RX4 yX4_drawnOut wsX4_drawnOut) := goodIn_app (goodIn_of _ (by decide +kernel)) ggL_law_X4_drawnOut
set_option maxRecDepth 20000 in
theorem ggL_law_X3_stall : GoodIn wsL_law wsX3_stall := goodIn_r _ [450, 18, 264, 265, 266, 17, 267, 33, 34, 268, 269, 270, 271, 35, 272, 2, 273, 99, 100, 101, 622, 623, 624, 625, 626, 627, 628, 629, 664, 665, 666, 667, 668, 669, 670, 671, 672, 673, 674, 675, 676, 677] (by decide +kernel) (by decide +kernel)
set_option maxRecDepth 20000 in
theorem gL_law_X3_stall : GoodIn wsL_law (wsV RL 72 RX3 yX3_stall wsX3_stall) := goodIn_app (goodIn_of _ (by decide +kernel)) ggL_law_X3_stall
set_option maxRecDepth 20000 in
theorem ggL_law_X4_stall : GoodIn wsL_law wsX4_stall := goodIn_r _ [454, 90, 91, 455, 86, 87, 315, 316, 317, 5, 318, 115, 117, 118, 119, 456, 457, 458, 459, 85, 630, 631, 632, 633, 634, 635, 636, 637, 638, 639, 640, 641, 642, 643, 644, 645, 646, 647, 648, 649, 650, 651, 652, 653, 654, 655, 656, 657, 658, 659, 660, 661, 662, 663] (by decide +kernel) (by decide +kernel)
set_option maxRecDepth 20000 in
theorem gL_law_X4_stall : GoodIn wsL_law (wsV RL 76 RX4 yX4_stall wsX4_stall) := goodIn_app (goodIn_of _ (by decide +kernel)) ggL_law_X4_stall
set_option maxRecDepth 20000 in
theorem ggL_law_X3_likely : GoodIn wsL_law wsX3_likely := goodIn_r _ [463, 464, 465, 18, 180, 23, 262, 182, 183, 184, 2, 185, 99, 100, 101, 466, 467, 468, 469, 470, 471, 472, 241, 264, 265, 266, 17, 267, 33, 34, 268, 269, 270, 271, 35, 272, 273, 278, 279, 280, 22, 281, 50, 51, 52, 53, 54, 55, 282, 154, 155, 283, 284, 285, 286, 40, 41, 287, 288, 289, 290, 291, 292, 293, 294, 295, 296, 297, 348, 340, 341, 342, 37, 44, 473, 474, 475, 476, 477, 478, 479, 480, 481, 482, 483, 484, 485, 486, 487, 488, 489, 622, 623, 624, 625, 626, 627, 628, 629, 664, 665, 666, 667, 668, 669, 670, 671, 672, 673, 674, 675, 676, 677, 678, 679, 680, 681, 682, 683] (by decide +kernel) (by decide +kernel)
set_option maxRecDepth 20000 in
theorem gL_law_X3_likely : GoodIn wsL_law (wsV RL 77 RX3 yX3_likely wsX3_likely) := goodIn_app (goodIn_of _ (by decide +kernel)) ggL_law_X3_likely
set_option maxRecDepth 20000 in
theorem ggL_law_X4_likely : GoodIn wsL_law wsX4_likely := goodIn_r _ [493, 494, 495, 212, 213, 214, 215, 5, 216, 117, 118, 119, 496, 497, 498, 499, 500, 501, 502, 503, 504, 80, 310, 311, 312, 313, 79, 75, 314, 90, 91, 303, 315, 316, 317, 318, 115, 319, 320, 321, 322, 82, 323, 324, 325, 326, 304, 305, 74, 73, 116, 327, 328, 329, 330, 71, 72, 505, 506, 507, 508, 509, 510, 511, 512, 513, 514, 515, 630, 631, 632, 633, 634, 635, 636, 637, 638, 639, 640, 641, 642, 643, 644, 645, 646, 647, 648, 649, 650, 651, 652, 653, 654, 655, 656, 657, 658, 659, 660, 661, 662, 663] (by decide +kernel) (by decide +kernel)
set_option maxRecDepth 20000 in
theorem gL_law_X4_likely : GoodIn wsL_law (wsV RL 81 RX4 yX4_likely wsX4_likely) := goodIn_app (goodIn_of _ (by decide +kernel)) ggL_law_X4_likely
set_option maxRecDepth 20000 in
theorem ggL_law_X3_mean : GoodIn wsL_law wsX3_mean := goodIn_r _ [519, 465, 18, 180, 23, 365, 366, 2, 367, 99, 100, 101, 466, 467, 468, 469, 470, 471, 472, 241, 264, 265, 266, 17, 267, 33, 34, 268, 269, 270, 271, 35, 272, 273, 278, 279, 280, 22, 281, 50, 51, 52, 53, 54, 55, 282, 154, 155, 283, 284, 285, 286, 40, 41, 287, 288, 289, 290, 291, 292, 293, 294, 295, 296, 297, 473, 474, 475, 476, 477, 478, 479, 480, 481, 482, 483, 484, 485, 486, 368, 369, 370, 371, 487, 488, 489, 622, 623, 624, 625, 626, 627, 628, 629, 664, 665, 666, 667, 668, 669, 670, 671, 672, 673, 674, 675, 676, 677, 678, 679, 680, 681, 682, 683] (by decide +kernel) (by decide +kernel)
set_option maxRecDepth 20000 in
theorem gL_law_X3_mean : GoodIn wsL_law (wsV RL 82 RX3 yX3_mean wsX3_mean) := goodIn_app (goodIn_of _ (by decide +kernel)) ggL_law_X3_mean
set_option maxRecDepth 20000 in
theorem ggL_law_X4_mean : GoodIn wsL_law wsX4_mean := goodIn_r _ [523, 495, 212, 82, 376, 377, 5, 378, 114, 117, 118, 119, 496, 497, 498, 499, 500, 501, 502, 503, 504, 80, 310, 311, 312, 313, 79, 75, 314, 90, 91, 303, 315, 316, 317, 318, 115, 319, 320, 321, 322, 323, 324, 325, 326, 304, 305, 74, 73, 116, 327, 328, 329, 330, 71, 72, 509, 510, 511, 512, 513, 514, 515, 630, 631, 632, 633, 634, 635, 636, 637, 638, 639, 640, 641, 642, 643, 644, 645, 646, 647, 648, 649, 650, 651, 652, 653, 654, 655, 656, 657, 658, 659, 660, 661, 662, 663] (by decide +kernel) (by decide +kernel)
set_option maxRecDepth 20000 in
theorem gL_law_X4_mean : GoodIn wsL_law (wsV RL 85 RX4 yX4_mean wsX4_mean) := goodIn_app (goodIn_of _ (by decide +kernel)) ggL_law_X4_mean
set_option maxRecDepth 20000 in
theorem ggL_law_X3_term : GoodIn wsL_law wsX3_term := goodIn_r _ [527, 18, 180, 23, 241, 262, 263, 365, 366, 2, 367, 99, 100, 101, 264, 265, 266, 17, 267, 33, 34, 268, 269, 270, 271, 35, 272, 273, 278, 279, 280, 22, 281, 50, 51, 52, 53, 54, 55, 282, 154, 155, 283, 284, 285, 286, 40, 41, 287, 288, 289, 290, 291, 292, 293, 294, 295, 296, 297, 368, 369, 370, 371, 622, 623, 624, 625, 626, 627, 628, 629, 664, 665, 666, 667, 668, 669, 670, 671, 672, 673, 674, 675, 676, 677, 678, 679, 680, 681, 682, 683] (by decide +kernel) (by decide +kernel)
set_option maxRecDepth 20000 in
theorem gL_law_X3_term : GoodIn wsL_law (wsV RL 86 RX3 yX3_term wsX3_term) := goodIn_app (goodIn_of _ (by decide +kernel)) ggL_law_X3_term
set_option maxRecDepth 20000 in
theorem ggL_law_X4_term : GoodIn wsL_law wsX4_term := goodIn_r _ [531, 398, 114, 314, 304, 79, 82, 117, 118, 5, 119, 310, 311, 312, 313, 75, 80, 212, 90, 91, 303, 315, 316, 317, 318, 115, 319, 320, 321, 322, 323, 324, 325, 326, 305, 74, 73, 116, 327, 328, 329, 330, 71, 72, 630, 631, 632, 633, 634, 635, 636, 637, 638, 639, 640, 641, 642, 643, 644, 645, 646, 647, 648, 649, 650, 651, 652, 653, 654, 655, 656, 657, 658, 659, 660, 661, 662, 663] (by decide +kernel) (by decide +kernel)
set_option maxRecDepth 20000 in
theorem gL_law_X4_term : GoodIn wsL_law (wsV RL 89 RX4 yX4_term wsX4_term) := goodIn_app (goodIn_of _ (by decide +kernel)) ggL_law_X4_term
set_option maxRecDepth 20000 in
theorem ggL_law_X3_seen : GoodIn wsL_law wsX3_seen := goodIn_r _ [535, 18, 180, 536, 537, 538, 99, 100, 2, 101, 124, 125, 126, 622, 623, 624, 625, 626, 627, 628, 629, 664, 665, 666, 667, 668, 669, 670, 671, 672, 673, 674, 675, 676, 677] (by decide +kernel) (by decide +kernel)
set_option maxRecDepth 20000 in
theorem gL_law_X3_seen : GoodIn wsL_law (wsV RL 90 RX3 yX3_seen wsX3_seen) := goodIn_app (goodIn_of _ (by decide +kernel)) ggL_law_X3_seen
set_option maxRecDepth 20000 in
theorem ggL_law_X4_seen : GoodIn wsL_law wsX4_seen := goodIn_r _ [542, 543, 212, 236, 76, 77, 117, 118, 5, 119, 630, 631, 632, 633, 634, 635, 636, 637, 638, 639, 640, 641, 642, 643, 644, 645, 646, 647, 648, 649, 650, 651, 652, 653, 654, 655, 656, 657, 658, 659, 660, 661, 662, 663] (by decide +kernel) (by decide +kernel)
set_option maxRecDepth 20000 in
theorem gL_law_X4_seen : GoodIn wsL_law (wsV RL 93 RX4 yX4_seen wsX4_seen) := goodIn_app (goodIn_of _ (by decide +kernel)) ggL_law_X4_seen
set_option maxRecDepth 20000 in
theorem ggL_law_X3_forget : GoodIn wsL_law wsX3_forget := goodIn_r _ [547, 18, 536, 622, 623, 624, 625, 626, 627, 628, 629, 664, 665, 666, 667, 668, 669, 670, 671, 672, 673, 674, 675, 676, 677] (by decide +kernel) (by decide +kernel)
set_option maxRecDepth 20000 in
theorem gL_law_X3_forget : GoodIn wsL_law (wsV RL 94 RX3 yX3_forget wsX3_forget) := goodIn_app (goodIn_of _ (by decide +kernel)) ggL_law_X3_forget
set_option maxRecDepth 20000 in
theorem ggL_law_X4_forget : GoodIn wsL_law wsX4_forget := goodIn_r _ [551, 236, 630, 631, 632, 633, 634, 635, 636, 637, 638, 639, 640, 641, 642, 643, 644, 645, 646, 647, 648, 649, 650, 651, 652, 653, 654, 655, 656, 657, 658, 659, 660, 661, 662, 663] (by decide +kernel) (by decide +kernel)
set_option maxRecDepth 20000 in
theorem gL_law_X4_forget : GoodIn wsL_law (wsV RL 97 RX4 yX4_forget wsX4_forget) := goodIn_app (goodIn_of _ (by decide +kernel)) ggL_law_X4_forget
set_option maxRecDepth 20000 in
theorem ggL_law_X3_fits : GoodIn wsL_law wsX3_fits := goodIn_r _ [555, 556, 557, 558, 2, 559, 18, 536, 537, 23, 241, 262, 538, 181, 154, 155, 416, 269, 270, 17, 271, 35, 272, 273, 278, 279, 280, 22, 281, 50, 51, 52, 53, 54, 55, 282, 283, 284, 285, 286, 40, 41, 287, 288, 289, 290, 291, 292, 293, 294, 295, 296, 297, 622, 623, 624, 625, 626, 627, 628, 629, 664, 665, 666, 667, 668, 669, 670, 671, 672, 673, 674, 675, 676, 677, 678, 679, 680, 681, 682, 683] (by decide +kernel) (by decide +kernel)
set_option maxRecDepth 20000 in
theorem gL_law_X3_fits : GoodIn wsL_law (wsV RL 98 RX3 yX3_fits wsX3_fits) := goodIn_app (goodIn_of _ (by decide +kernel)) ggL_law_X3_fits
set_option maxRecDepth 20000 in
theorem ggL_law_X4_fits : GoodIn wsL_law wsX4_fits := goodIn_r _ [563, 236, 76, 303, 304, 77, 310, 311, 312, 5, 313, 79, 75, 80, 212, 314, 90, 91, 315, 316, 317, 318, 115, 319, 320, 321, 322, 82, 323, 324, 325, 326, 305, 74, 73, 116, 327, 328, 329, 330, 71, 72, 630, 631, 632, 633, 634, 635, 636, 637, 638, 639, 640, 641, 642, 643, 644, 645, 646, 647, 648, 649, 650, 651, 652, 653, 654, 655, 656, 657, 658, 659, 660, 661, 662, 663] (by decide +kernel) (by decide +kernel)
set_option maxRecDepth 20000 in
theorem gL_law_X4_fits : GoodIn wsL_law (wsV RL 101 RX4 yX4_fits wsX4_fits) := goodIn_app (goodIn_of _ (by decide +kernel)) ggL_law_X4_fits
set_option maxRecDepth 20000 in
theorem ggL_law_X3_year : GoodIn wsL_law wsX3_year := goodIn_r _ [567, 568, 23, 18, 241, 407, 262, 99, 100, 2, 101, 365, 366, 367, 416, 269, 270, 17, 271, 35, 272, 273, 278, 279, 280, 22, 281, 50, 51, 52, 53, 54, 55, 282, 154, 155, 283, 284, 285, 286, 40, 41, 287, 288, 289, 290, 291, 292, 293, 294, 295, 296, 297, 368, 369, 370, 371, 622, 623, 624, 625, 626, 627, 628, 629, 664, 665, 666, 667, 668, 669, 670, 671, 672, 673, 674, 675, 676, 677, 678, 679, 680, 681, 682, 683] (by decide +kernel) (by decide +kernel)
set_option maxRecDepth 20000 in
theorem gL_law_X3_year : GoodIn wsL_law (wsV RL 102 RX3 yX3_year wsX3_year) := goodIn_app (goodIn_of _ (by decide +kernel)) ggL_law_X3_year
set_option maxRecDepth 20000 in
theorem ggL_law_X4_year : GoodIn wsL_law wsX4_year := goodIn_r _ [572, 573, 543, 398, 114, 574, 575, 576, 91, 303, 304, 82, 117, 118, 5, 119, 310, 311, 312, 313, 79, 75, 80, 212, 314, 90, 315, 316, 317, 318, 115, 319, 320, 321, 322, 323, 324, 325, 326, 305, 74, 73, 116, 327, 328, 329, 330, 71, 72, 630, 631, 632, 633, 634, 635, 636, 637, 638, 639, 640, 641, 642, 643, 644, 645, 646, 647, 648, 649, 650, 651, 652, 653, 654, 655, 656, 657, 658, 659, 660, 661, 662, 663] (by decide +kernel) (by decide +kernel)
set_option maxRecDepth 20000 in
theorem gL_law_X4_year : GoodIn wsL_law (wsV RL 105 RX4 yX4_year wsX4_year) := goodIn_app (goodIn_of _ (by decide +kernel)) ggL_law_X4_year
set_option maxRecDepth 20000 in
theorem ggL_law_X3_image : GoodIn wsL_law wsX3_image := goodIn_r _ [580, 18, 581, 582, 583, 584, 2, 585, 19, 586, 587, 588, 17, 589, 33, 34, 35, 36, 37, 38, 40, 41, 42, 43, 44, 45, 46, 230, 231, 181, 154, 155, 622, 623, 624, 625, 626, 627, 628, 629, 664, 665, 666, 667, 668, 669, 670, 671, 672, 673, 674, 675, 676, 677] (by decide +kernel) (by decide +kernel)
set_option maxRecDepth 20000 in
theorem gL_law_X3_image : GoodIn wsL_law (wsV RL 106 RX3 yX3_image wsX3_image) := goodIn_app (goodIn_of _ (by decide +kernel)) ggL_law_X3_image
set_option maxRecDepth 20000 in
theorem ggL_law_X4_image : GoodIn wsL_law wsX4_image := goodIn_r _ [593, 594, 595, 89, 117, 118, 5, 119, 596, 597, 598, 599, 90, 91, 115, 116, 212, 236, 71, 72, 73, 74, 75, 76, 77, 600, 601, 602, 603, 88, 630, 631, 632, 633, 634, 635, 636, 637, 638, 639, 640, 641, 642, 643, 644, 645, 646, 647, 648, 649, 650, 651, 652, 653, 654, 655, 656, 657, 658, 659, 660, 661, 662, 663] (by decide +kernel) (by decide +kernel)
set_option maxRecDepth 20000 in
theorem gL_law_X4_image : GoodIn wsL_law (wsV RL 109 RX4 yX4_image wsX4_image) := goodIn_app (goodIn_of _ (by decide +kernel)) ggL_law_X4_image
set_option maxRecDepth 20000 in
theorem ggL_law_X3_restore : GoodIn wsL_law wsX3_restore := goodIn_r _ [607, 581, 18, 582, 583, 584, 2, 585, 19, 586, 587, 588, 17, 589, 33, 34, 35, 36, 37, 38, 40, 41, 42, 43, 44, 45, 46, 230, 231, 181, 154, 155, 664, 665, 666, 667, 668, 669, 670, 671, 672, 673, 674, 675, 676, 677, 622, 623, 624, 625, 626, 627, 628, 629] (by decide +kernel) (by decide +kernel)
set_option maxRecDepth 20000 in
theorem gL_law_X3_restore : GoodIn wsL_law (wsV RL 110 RX3 yX3_restore wsX3_restore) := goodIn_app (goodIn_of _ (by decide +kernel)) ggL_law_X3_restore
set_option maxRecDepth 20000 in
theorem ggL_law_X4_restore : GoodIn wsL_law wsX4_restore := goodIn_r _ [611, 89, 594, 595, 117, 118, 5, 119, 596, 597, 598, 599, 90, 91, 115, 116, 212, 236, 71, 72, 73, 74, 75, 76, 77, 600, 601, 602, 603, 88, 630, 631, 632, 633, 634, 635, 636, 637, 638, 639, 640, 641, 642, 643, 644, 645, 646, 647, 648, 649, 650, 651, 652, 653, 654, 655, 656, 657, 658, 659, 660, 661, 662, 663] (by decide +kernel) (by decide +kernel)
set_option maxRecDepth 20000 in
theorem gL_law_X4_restore : GoodIn wsL_law (wsV RL 113 RX4 yX4_restore wsX4_restore) := goodIn_app (goodIn_of _ (by decide +kernel)) ggL_law_X4_restore
set_option maxRecDepth 20000 in
theorem ggL_law_X3_told : GoodIn wsL_law wsX3_told := goodIn_r _ [615, 14, 18, 433, 407, 616, 617, 180, 536, 241, 99, 100, 2, 101, 181, 154, 155, 622, 623, 624, 625, 626, 627, 628, 629, 664, 665, 666, 667, 668, 669, 670, 671, 672, 673, 674, 675, 676, 677] (by decide +kernel) (by decide +kernel)
set_option maxRecDepth 20000 in
theorem gL_law_X3_told : GoodIn wsL_law (wsV RL 114 RX3 yX3_told wsX3_told) := goodIn_app (goodIn_of _ (by decide +kernel)) ggL_law_X3_told
set_option maxRecDepth 20000 in
theorem ggL_law_X4_told : GoodIn wsL_law wsX4_told := goodIn_r _ [621, 500, 212, 75, 133, 90, 91, 115, 116, 236, 117, 118, 5, 119, 630, 631, 632, 633, 634, 635, 636, 637, 638, 639, 640, 641, 642, 643, 644, 645, 646, 647, 648, 649, 650, 651, 652, 653, 654, 655, 656, 657, 658, 659, 660, 661, 662, 663] (by decide +kernel) (by decide +kernel)
set_option maxRecDepth 20000 in
theorem gL_law_X4_told : GoodIn wsL_law (wsV RL 117 RX4 yX4_told wsX4_told) := goodIn_app (goodIn_of _ (by decide +kernel)) ggL_law_X4_told
theorem dL_law_0 : decode cL_law 0 = .ok (.new 7, 3) := by decide +kernel
theorem dL_law_3 : decode cL_law 3 = .ok (.dup, 1) := by decide +kernel
theorem dL_law_4 : decode cL_law 4 = .ok (.invokespecial 9, 3) := by decide +kernel
theorem dL_law_7 : decode cL_law 7 = .ok (.astore_n 1, 1) := by decide +kernel
theorem dL_law_8 : decode cL_law 8 = .ok (.new 10, 3) := by decide +kernel
theorem dL_law_11 : decode cL_law 11 = .ok (.dup, 1) := by decide +kernel
theorem dL_law_12 : decode cL_law 12 = .ok (.invokespecial 12, 3) := by decide +kernel
theorem dL_law_15 : decode cL_law 15 = .ok (.astore_n 2, 1) := by decide +kernel
theorem dL_law_16 : decode cL_law 16 = .ok (.iconst 0, 1) := by decide +kernel
theorem dL_law_17 : decode cL_law 17 = .ok (.istore_n 3, 1) := by decide +kernel
theorem dL_law_18 : decode cL_law 18 = .ok (.iload_n 3, 1) := by decide +kernel
theorem dL_law_19 : decode cL_law 19 = .ok (.aload_n 0, 1) := by decide +kernel
theorem dL_law_20 : decode cL_law 20 = .ok (.arraylength, 1) := by decide +kernel
theorem dL_law_21 : decode cL_law 21 = .ok (.iconst 5, 1) := by decide +kernel
theorem dL_law_22 : decode cL_law 22 = .ok (.isub, 1) := by decide +kernel
theorem dL_law_23 : decode cL_law 23 = .ok (.if_icmp .gt 808, 3) := by decide +kernel
theorem dL_law_26 : decode cL_law 26 = .ok (.aload_n 0, 1) := by decide +kernel
theorem dL_law_27 : decode cL_law 27 = .ok (.iload_n 3, 1) := by decide +kernel
theorem dL_law_28 : decode cL_law 28 = .ok (.iaload, 1) := by decide +kernel
theorem dL_law_29 : decode cL_law 29 = .ok (.bipush 31, 2) := by decide +kernel
theorem dL_law_31 : decode cL_law 31 = .ok (.iand, 1) := by decide +kernel
theorem dL_law_32 : decode cL_law 32 = .ok (.tableswitch 793 0 24 #[116, 149, 172, 185, 208, 221, 234, 267, 290, 323, 346, 379, 402, 425, 448, 491, 545, 599, 622, 655, 668, 681, 724, 747, 770], 116) := by decide +kernel
theorem dL_law_148 : decode cL_law 148 = .ok (.aload_n 1, 1) := by decide +kernel
theorem dL_law_149 : decode cL_law 149 = .ok (.aload_n 0, 1) := by decide +kernel
theorem dL_law_150 : decode cL_law 150 = .ok (.iload_n 3, 1) := by decide +kernel
theorem dL_law_151 : decode cL_law 151 = .ok (.iconst 1, 1) := by decide +kernel
theorem dL_law_152 : decode cL_law 152 = .ok (.iadd, 1) := by decide +kernel
theorem dL_law_153 : decode cL_law 153 = .ok (.iaload, 1) := by decide +kernel
theorem dL_law_154 : decode cL_law 154 = .ok (.aload_n 0, 1) := by decide +kernel
theorem dL_law_155 : decode cL_law 155 = .ok (.iload_n 3, 1) := by decide +kernel
theorem dL_law_156 : decode cL_law 156 = .ok (.iconst 2, 1) := by decide +kernel
theorem dL_law_157 : decode cL_law 157 = .ok (.iadd, 1) := by decide +kernel
theorem dL_law_158 : decode cL_law 158 = .ok (.iaload, 1) := by decide +kernel
theorem dL_law_159 : decode cL_law 159 = .ok (.invokevirtual 13, 3) := by decide +kernel
theorem dL_law_162 : decode cL_law 162 = .ok (.aload_n 2, 1) := by decide +kernel
theorem dL_law_163 : decode cL_law 163 = .ok (.aload_n 0, 1) := by decide +kernel
theorem dL_law_164 : decode cL_law 164 = .ok (.iload_n 3, 1) := by decide +kernel
theorem dL_law_165 : decode cL_law 165 = .ok (.iconst 1, 1) := by decide +kernel
theorem dL_law_166 : decode cL_law 166 = .ok (.iadd, 1) := by decide +kernel
theorem dL_law_167 : decode cL_law 167 = .ok (.iaload, 1) := by decide +kernel
theorem dL_law_168 : decode cL_law 168 = .ok (.aload_n 0, 1) := by decide +kernel
theorem dL_law_169 : decode cL_law 169 = .ok (.iload_n 3, 1) := by decide +kernel
theorem dL_law_170 : decode cL_law 170 = .ok (.iconst 2, 1) := by decide +kernel
theorem dL_law_171 : decode cL_law 171 = .ok (.iadd, 1) := by decide +kernel
theorem dL_law_172 : decode cL_law 172 = .ok (.iaload, 1) := by decide +kernel
theorem dL_law_173 : decode cL_law 173 = .ok (.invokevirtual 17, 3) := by decide +kernel
theorem dL_law_176 : decode cL_law 176 = .ok (.if_icmp .eq 649, 3) := by decide +kernel
theorem dL_law_179 : decode cL_law 179 = .ok (.iconst 0, 1) := by decide +kernel
theorem dL_law_180 : decode cL_law 180 = .ok (.ireturn, 1) := by decide +kernel
theorem dL_law_181 : decode cL_law 181 = .ok (.aload_n 1, 1) := by decide +kernel
theorem dL_law_182 : decode cL_law 182 = .ok (.aload_n 0, 1) := by decide +kernel
theorem dL_law_183 : decode cL_law 183 = .ok (.iload_n 3, 1) := by decide +kernel
theorem dL_law_184 : decode cL_law 184 = .ok (.iconst 1, 1) := by decide +kernel
theorem dL_law_185 : decode cL_law 185 = .ok (.iadd, 1) := by decide +kernel
theorem dL_law_186 : decode cL_law 186 = .ok (.iaload, 1) := by decide +kernel
theorem dL_law_187 : decode cL_law 187 = .ok (.invokevirtual 18, 3) := by decide +kernel
theorem dL_law_190 : decode cL_law 190 = .ok (.aload_n 2, 1) := by decide +kernel
theorem dL_law_191 : decode cL_law 191 = .ok (.aload_n 0, 1) := by decide +kernel
theorem dL_law_192 : decode cL_law 192 = .ok (.iload_n 3, 1) := by decide +kernel
theorem dL_law_193 : decode cL_law 193 = .ok (.iconst 1, 1) := by decide +kernel
theorem dL_law_194 : decode cL_law 194 = .ok (.iadd, 1) := by decide +kernel
theorem dL_law_195 : decode cL_law 195 = .ok (.iaload, 1) := by decide +kernel
theorem dL_law_196 : decode cL_law 196 = .ok (.invokevirtual 22, 3) := by decide +kernel
theorem dL_law_199 : decode cL_law 199 = .ok (.if_icmp .eq 626, 3) := by decide +kernel
theorem dL_law_202 : decode cL_law 202 = .ok (.iconst 0, 1) := by decide +kernel
theorem dL_law_203 : decode cL_law 203 = .ok (.ireturn, 1) := by decide +kernel
theorem dL_law_204 : decode cL_law 204 = .ok (.aload_n 1, 1) := by decide +kernel
theorem dL_law_205 : decode cL_law 205 = .ok (.invokevirtual 23, 3) := by decide +kernel
theorem dL_law_208 : decode cL_law 208 = .ok (.aload_n 2, 1) := by decide +kernel
theorem dL_law_209 : decode cL_law 209 = .ok (.invokevirtual 27, 3) := by decide +kernel
theorem dL_law_212 : decode cL_law 212 = .ok (.if_icmp .eq 613, 3) := by decide +kernel
theorem dL_law_215 : decode cL_law 215 = .ok (.iconst 0, 1) := by decide +kernel
theorem dL_law_216 : decode cL_law 216 = .ok (.ireturn, 1) := by decide +kernel
theorem dL_law_217 : decode cL_law 217 = .ok (.aload_n 1, 1) := by decide +kernel
theorem dL_law_218 : decode cL_law 218 = .ok (.aload_n 0, 1) := by decide +kernel
theorem dL_law_219 : decode cL_law 219 = .ok (.iload_n 3, 1) := by decide +kernel
theorem dL_law_220 : decode cL_law 220 = .ok (.iconst 1, 1) := by decide +kernel
theorem dL_law_221 : decode cL_law 221 = .ok (.iadd, 1) := by decide +kernel
theorem dL_law_222 : decode cL_law 222 = .ok (.iaload, 1) := by decide +kernel
theorem dL_law_223 : decode cL_law 223 = .ok (.invokevirtual 28, 3) := by decide +kernel
theorem dL_law_226 : decode cL_law 226 = .ok (.aload_n 2, 1) := by decide +kernel
theorem dL_law_227 : decode cL_law 227 = .ok (.aload_n 0, 1) := by decide +kernel
theorem dL_law_228 : decode cL_law 228 = .ok (.iload_n 3, 1) := by decide +kernel
theorem dL_law_229 : decode cL_law 229 = .ok (.iconst 1, 1) := by decide +kernel
theorem dL_law_230 : decode cL_law 230 = .ok (.iadd, 1) := by decide +kernel
theorem dL_law_231 : decode cL_law 231 = .ok (.iaload, 1) := by decide +kernel
theorem dL_law_232 : decode cL_law 232 = .ok (.invokevirtual 31, 3) := by decide +kernel
theorem dL_law_235 : decode cL_law 235 = .ok (.if_icmp .eq 590, 3) := by decide +kernel
theorem dL_law_238 : decode cL_law 238 = .ok (.iconst 0, 1) := by decide +kernel
theorem dL_law_239 : decode cL_law 239 = .ok (.ireturn, 1) := by decide +kernel
theorem dL_law_240 : decode cL_law 240 = .ok (.aload_n 1, 1) := by decide +kernel
theorem dL_law_241 : decode cL_law 241 = .ok (.invokevirtual 32, 3) := by decide +kernel
theorem dL_law_244 : decode cL_law 244 = .ok (.aload_n 2, 1) := by decide +kernel
theorem dL_law_245 : decode cL_law 245 = .ok (.invokevirtual 35, 3) := by decide +kernel
theorem dL_law_248 : decode cL_law 248 = .ok (.if_icmp .eq 577, 3) := by decide +kernel
theorem dL_law_251 : decode cL_law 251 = .ok (.iconst 0, 1) := by decide +kernel
theorem dL_law_252 : decode cL_law 252 = .ok (.ireturn, 1) := by decide +kernel
theorem dL_law_253 : decode cL_law 253 = .ok (.aload_n 1, 1) := by decide +kernel
theorem dL_law_254 : decode cL_law 254 = .ok (.invokevirtual 36, 3) := by decide +kernel
theorem dL_law_257 : decode cL_law 257 = .ok (.aload_n 2, 1) := by decide +kernel
theorem dL_law_258 : decode cL_law 258 = .ok (.invokevirtual 39, 3) := by decide +kernel
theorem dL_law_261 : decode cL_law 261 = .ok (.if_icmp .eq 564, 3) := by decide +kernel
theorem dL_law_264 : decode cL_law 264 = .ok (.iconst 0, 1) := by decide +kernel
theorem dL_law_265 : decode cL_law 265 = .ok (.ireturn, 1) := by decide +kernel
theorem dL_law_266 : decode cL_law 266 = .ok (.aload_n 1, 1) := by decide +kernel
theorem dL_law_267 : decode cL_law 267 = .ok (.aload_n 0, 1) := by decide +kernel
theorem dL_law_268 : decode cL_law 268 = .ok (.iload_n 3, 1) := by decide +kernel
theorem dL_law_269 : decode cL_law 269 = .ok (.iconst 1, 1) := by decide +kernel
theorem dL_law_270 : decode cL_law 270 = .ok (.iadd, 1) := by decide +kernel
theorem dL_law_271 : decode cL_law 271 = .ok (.iaload, 1) := by decide +kernel
theorem dL_law_272 : decode cL_law 272 = .ok (.aload_n 0, 1) := by decide +kernel
theorem dL_law_273 : decode cL_law 273 = .ok (.iload_n 3, 1) := by decide +kernel
theorem dL_law_274 : decode cL_law 274 = .ok (.iconst 2, 1) := by decide +kernel
theorem dL_law_275 : decode cL_law 275 = .ok (.iadd, 1) := by decide +kernel
theorem dL_law_276 : decode cL_law 276 = .ok (.iaload, 1) := by decide +kernel
theorem dL_law_277 : decode cL_law 277 = .ok (.invokevirtual 40, 3) := by decide +kernel
theorem dL_law_280 : decode cL_law 280 = .ok (.aload_n 2, 1) := by decide +kernel
theorem dL_law_281 : decode cL_law 281 = .ok (.aload_n 0, 1) := by decide +kernel
theorem dL_law_282 : decode cL_law 282 = .ok (.iload_n 3, 1) := by decide +kernel
theorem dL_law_283 : decode cL_law 283 = .ok (.iconst 1, 1) := by decide +kernel
theorem dL_law_284 : decode cL_law 284 = .ok (.iadd, 1) := by decide +kernel
theorem dL_law_285 : decode cL_law 285 = .ok (.iaload, 1) := by decide +kernel
theorem dL_law_286 : decode cL_law 286 = .ok (.aload_n 0, 1) := by decide +kernel
theorem dL_law_287 : decode cL_law 287 = .ok (.iload_n 3, 1) := by decide +kernel
theorem dL_law_288 : decode cL_law 288 = .ok (.iconst 2, 1) := by decide +kernel
theorem dL_law_289 : decode cL_law 289 = .ok (.iadd, 1) := by decide +kernel
theorem dL_law_290 : decode cL_law 290 = .ok (.iaload, 1) := by decide +kernel
theorem dL_law_291 : decode cL_law 291 = .ok (.invokevirtual 43, 3) := by decide +kernel
theorem dL_law_294 : decode cL_law 294 = .ok (.if_icmp .eq 531, 3) := by decide +kernel
theorem dL_law_297 : decode cL_law 297 = .ok (.iconst 0, 1) := by decide +kernel
theorem dL_law_298 : decode cL_law 298 = .ok (.ireturn, 1) := by decide +kernel
theorem dL_law_299 : decode cL_law 299 = .ok (.aload_n 1, 1) := by decide +kernel
theorem dL_law_300 : decode cL_law 300 = .ok (.aload_n 0, 1) := by decide +kernel
theorem dL_law_301 : decode cL_law 301 = .ok (.iload_n 3, 1) := by decide +kernel
theorem dL_law_302 : decode cL_law 302 = .ok (.iconst 1, 1) := by decide +kernel
theorem dL_law_303 : decode cL_law 303 = .ok (.iadd, 1) := by decide +kernel
theorem dL_law_304 : decode cL_law 304 = .ok (.iaload, 1) := by decide +kernel
theorem dL_law_305 : decode cL_law 305 = .ok (.invokevirtual 44, 3) := by decide +kernel
theorem dL_law_308 : decode cL_law 308 = .ok (.aload_n 2, 1) := by decide +kernel
theorem dL_law_309 : decode cL_law 309 = .ok (.aload_n 0, 1) := by decide +kernel
theorem dL_law_310 : decode cL_law 310 = .ok (.iload_n 3, 1) := by decide +kernel
theorem dL_law_311 : decode cL_law 311 = .ok (.iconst 1, 1) := by decide +kernel
theorem dL_law_312 : decode cL_law 312 = .ok (.iadd, 1) := by decide +kernel
theorem dL_law_313 : decode cL_law 313 = .ok (.iaload, 1) := by decide +kernel
theorem dL_law_314 : decode cL_law 314 = .ok (.invokevirtual 47, 3) := by decide +kernel
theorem dL_law_317 : decode cL_law 317 = .ok (.if_icmp .eq 508, 3) := by decide +kernel
theorem dL_law_320 : decode cL_law 320 = .ok (.iconst 0, 1) := by decide +kernel
theorem dL_law_321 : decode cL_law 321 = .ok (.ireturn, 1) := by decide +kernel
theorem dL_law_322 : decode cL_law 322 = .ok (.aload_n 1, 1) := by decide +kernel
theorem dL_law_323 : decode cL_law 323 = .ok (.aload_n 0, 1) := by decide +kernel
theorem dL_law_324 : decode cL_law 324 = .ok (.iload_n 3, 1) := by decide +kernel
theorem dL_law_325 : decode cL_law 325 = .ok (.iconst 1, 1) := by decide +kernel
theorem dL_law_326 : decode cL_law 326 = .ok (.iadd, 1) := by decide +kernel
theorem dL_law_327 : decode cL_law 327 = .ok (.iaload, 1) := by decide +kernel
theorem dL_law_328 : decode cL_law 328 = .ok (.aload_n 0, 1) := by decide +kernel
theorem dL_law_329 : decode cL_law 329 = .ok (.iload_n 3, 1) := by decide +kernel
theorem dL_law_330 : decode cL_law 330 = .ok (.iconst 2, 1) := by decide +kernel
theorem dL_law_331 : decode cL_law 331 = .ok (.iadd, 1) := by decide +kernel
theorem dL_law_332 : decode cL_law 332 = .ok (.iaload, 1) := by decide +kernel
theorem dL_law_333 : decode cL_law 333 = .ok (.invokevirtual 48, 3) := by decide +kernel
theorem dL_law_336 : decode cL_law 336 = .ok (.aload_n 2, 1) := by decide +kernel
theorem dL_law_337 : decode cL_law 337 = .ok (.aload_n 0, 1) := by decide +kernel
theorem dL_law_338 : decode cL_law 338 = .ok (.iload_n 3, 1) := by decide +kernel
theorem dL_law_339 : decode cL_law 339 = .ok (.iconst 1, 1) := by decide +kernel
theorem dL_law_340 : decode cL_law 340 = .ok (.iadd, 1) := by decide +kernel
theorem dL_law_341 : decode cL_law 341 = .ok (.iaload, 1) := by decide +kernel
theorem dL_law_342 : decode cL_law 342 = .ok (.aload_n 0, 1) := by decide +kernel
theorem dL_law_343 : decode cL_law 343 = .ok (.iload_n 3, 1) := by decide +kernel
theorem dL_law_344 : decode cL_law 344 = .ok (.iconst 2, 1) := by decide +kernel
theorem dL_law_345 : decode cL_law 345 = .ok (.iadd, 1) := by decide +kernel
theorem dL_law_346 : decode cL_law 346 = .ok (.iaload, 1) := by decide +kernel
theorem dL_law_347 : decode cL_law 347 = .ok (.invokevirtual 51, 3) := by decide +kernel
theorem dL_law_350 : decode cL_law 350 = .ok (.if_icmp .eq 475, 3) := by decide +kernel
theorem dL_law_353 : decode cL_law 353 = .ok (.iconst 0, 1) := by decide +kernel
theorem dL_law_354 : decode cL_law 354 = .ok (.ireturn, 1) := by decide +kernel
theorem dL_law_355 : decode cL_law 355 = .ok (.aload_n 1, 1) := by decide +kernel
theorem dL_law_356 : decode cL_law 356 = .ok (.aload_n 0, 1) := by decide +kernel
theorem dL_law_357 : decode cL_law 357 = .ok (.iload_n 3, 1) := by decide +kernel
theorem dL_law_358 : decode cL_law 358 = .ok (.iconst 1, 1) := by decide +kernel
theorem dL_law_359 : decode cL_law 359 = .ok (.iadd, 1) := by decide +kernel
theorem dL_law_360 : decode cL_law 360 = .ok (.iaload, 1) := by decide +kernel
theorem dL_law_361 : decode cL_law 361 = .ok (.invokevirtual 52, 3) := by decide +kernel
theorem dL_law_364 : decode cL_law 364 = .ok (.aload_n 2, 1) := by decide +kernel
theorem dL_law_365 : decode cL_law 365 = .ok (.aload_n 0, 1) := by decide +kernel
theorem dL_law_366 : decode cL_law 366 = .ok (.iload_n 3, 1) := by decide +kernel
theorem dL_law_367 : decode cL_law 367 = .ok (.iconst 1, 1) := by decide +kernel
theorem dL_law_368 : decode cL_law 368 = .ok (.iadd, 1) := by decide +kernel
theorem dL_law_369 : decode cL_law 369 = .ok (.iaload, 1) := by decide +kernel
theorem dL_law_370 : decode cL_law 370 = .ok (.invokevirtual 55, 3) := by decide +kernel
theorem dL_law_373 : decode cL_law 373 = .ok (.if_icmp .eq 452, 3) := by decide +kernel
theorem dL_law_376 : decode cL_law 376 = .ok (.iconst 0, 1) := by decide +kernel
theorem dL_law_377 : decode cL_law 377 = .ok (.ireturn, 1) := by decide +kernel
theorem dL_law_378 : decode cL_law 378 = .ok (.aload_n 1, 1) := by decide +kernel
theorem dL_law_379 : decode cL_law 379 = .ok (.aload_n 0, 1) := by decide +kernel
theorem dL_law_380 : decode cL_law 380 = .ok (.iload_n 3, 1) := by decide +kernel
theorem dL_law_381 : decode cL_law 381 = .ok (.iconst 1, 1) := by decide +kernel
theorem dL_law_382 : decode cL_law 382 = .ok (.iadd, 1) := by decide +kernel
theorem dL_law_383 : decode cL_law 383 = .ok (.iaload, 1) := by decide +kernel
theorem dL_law_384 : decode cL_law 384 = .ok (.aload_n 0, 1) := by decide +kernel
theorem dL_law_385 : decode cL_law 385 = .ok (.iload_n 3, 1) := by decide +kernel
theorem dL_law_386 : decode cL_law 386 = .ok (.iconst 2, 1) := by decide +kernel
theorem dL_law_387 : decode cL_law 387 = .ok (.iadd, 1) := by decide +kernel
theorem dL_law_388 : decode cL_law 388 = .ok (.iaload, 1) := by decide +kernel
theorem dL_law_389 : decode cL_law 389 = .ok (.invokevirtual 56, 3) := by decide +kernel
theorem dL_law_392 : decode cL_law 392 = .ok (.aload_n 2, 1) := by decide +kernel
theorem dL_law_393 : decode cL_law 393 = .ok (.aload_n 0, 1) := by decide +kernel
theorem dL_law_394 : decode cL_law 394 = .ok (.iload_n 3, 1) := by decide +kernel
theorem dL_law_395 : decode cL_law 395 = .ok (.iconst 1, 1) := by decide +kernel
theorem dL_law_396 : decode cL_law 396 = .ok (.iadd, 1) := by decide +kernel
theorem dL_law_397 : decode cL_law 397 = .ok (.iaload, 1) := by decide +kernel
theorem dL_law_398 : decode cL_law 398 = .ok (.aload_n 0, 1) := by decide +kernel
theorem dL_law_399 : decode cL_law 399 = .ok (.iload_n 3, 1) := by decide +kernel
theorem dL_law_400 : decode cL_law 400 = .ok (.iconst 2, 1) := by decide +kernel
theorem dL_law_401 : decode cL_law 401 = .ok (.iadd, 1) := by decide +kernel
theorem dL_law_402 : decode cL_law 402 = .ok (.iaload, 1) := by decide +kernel
theorem dL_law_403 : decode cL_law 403 = .ok (.invokevirtual 59, 3) := by decide +kernel
theorem dL_law_406 : decode cL_law 406 = .ok (.if_icmp .eq 419, 3) := by decide +kernel
theorem dL_law_409 : decode cL_law 409 = .ok (.iconst 0, 1) := by decide +kernel
theorem dL_law_410 : decode cL_law 410 = .ok (.ireturn, 1) := by decide +kernel
theorem dL_law_411 : decode cL_law 411 = .ok (.aload_n 1, 1) := by decide +kernel
theorem dL_law_412 : decode cL_law 412 = .ok (.aload_n 0, 1) := by decide +kernel
theorem dL_law_413 : decode cL_law 413 = .ok (.iload_n 3, 1) := by decide +kernel
theorem dL_law_414 : decode cL_law 414 = .ok (.iconst 1, 1) := by decide +kernel
theorem dL_law_415 : decode cL_law 415 = .ok (.iadd, 1) := by decide +kernel
theorem dL_law_416 : decode cL_law 416 = .ok (.iaload, 1) := by decide +kernel
theorem dL_law_417 : decode cL_law 417 = .ok (.invokevirtual 60, 3) := by decide +kernel
theorem dL_law_420 : decode cL_law 420 = .ok (.aload_n 2, 1) := by decide +kernel
theorem dL_law_421 : decode cL_law 421 = .ok (.aload_n 0, 1) := by decide +kernel
theorem dL_law_422 : decode cL_law 422 = .ok (.iload_n 3, 1) := by decide +kernel
theorem dL_law_423 : decode cL_law 423 = .ok (.iconst 1, 1) := by decide +kernel
theorem dL_law_424 : decode cL_law 424 = .ok (.iadd, 1) := by decide +kernel
theorem dL_law_425 : decode cL_law 425 = .ok (.iaload, 1) := by decide +kernel
theorem dL_law_426 : decode cL_law 426 = .ok (.invokevirtual 63, 3) := by decide +kernel
theorem dL_law_429 : decode cL_law 429 = .ok (.if_icmp .eq 396, 3) := by decide +kernel
theorem dL_law_432 : decode cL_law 432 = .ok (.iconst 0, 1) := by decide +kernel
theorem dL_law_433 : decode cL_law 433 = .ok (.ireturn, 1) := by decide +kernel
theorem dL_law_434 : decode cL_law 434 = .ok (.aload_n 1, 1) := by decide +kernel
theorem dL_law_435 : decode cL_law 435 = .ok (.aload_n 0, 1) := by decide +kernel
theorem dL_law_436 : decode cL_law 436 = .ok (.iload_n 3, 1) := by decide +kernel
theorem dL_law_437 : decode cL_law 437 = .ok (.iconst 1, 1) := by decide +kernel
theorem dL_law_438 : decode cL_law 438 = .ok (.iadd, 1) := by decide +kernel
theorem dL_law_439 : decode cL_law 439 = .ok (.iaload, 1) := by decide +kernel
theorem dL_law_440 : decode cL_law 440 = .ok (.invokevirtual 64, 3) := by decide +kernel
theorem dL_law_443 : decode cL_law 443 = .ok (.aload_n 2, 1) := by decide +kernel
theorem dL_law_444 : decode cL_law 444 = .ok (.aload_n 0, 1) := by decide +kernel
theorem dL_law_445 : decode cL_law 445 = .ok (.iload_n 3, 1) := by decide +kernel
theorem dL_law_446 : decode cL_law 446 = .ok (.iconst 1, 1) := by decide +kernel
theorem dL_law_447 : decode cL_law 447 = .ok (.iadd, 1) := by decide +kernel
theorem dL_law_448 : decode cL_law 448 = .ok (.iaload, 1) := by decide +kernel
theorem dL_law_449 : decode cL_law 449 = .ok (.invokevirtual 67, 3) := by decide +kernel
theorem dL_law_452 : decode cL_law 452 = .ok (.if_icmp .eq 373, 3) := by decide +kernel
theorem dL_law_455 : decode cL_law 455 = .ok (.iconst 0, 1) := by decide +kernel
theorem dL_law_456 : decode cL_law 456 = .ok (.ireturn, 1) := by decide +kernel
theorem dL_law_457 : decode cL_law 457 = .ok (.aload_n 1, 1) := by decide +kernel
theorem dL_law_458 : decode cL_law 458 = .ok (.aload_n 0, 1) := by decide +kernel
theorem dL_law_459 : decode cL_law 459 = .ok (.iload_n 3, 1) := by decide +kernel
theorem dL_law_460 : decode cL_law 460 = .ok (.iconst 1, 1) := by decide +kernel
theorem dL_law_461 : decode cL_law 461 = .ok (.iadd, 1) := by decide +kernel
theorem dL_law_462 : decode cL_law 462 = .ok (.iaload, 1) := by decide +kernel
theorem dL_law_463 : decode cL_law 463 = .ok (.invokevirtual 68, 3) := by decide +kernel
theorem dL_law_466 : decode cL_law 466 = .ok (.aload_n 2, 1) := by decide +kernel
theorem dL_law_467 : decode cL_law 467 = .ok (.aload_n 0, 1) := by decide +kernel
theorem dL_law_468 : decode cL_law 468 = .ok (.iload_n 3, 1) := by decide +kernel
theorem dL_law_469 : decode cL_law 469 = .ok (.iconst 1, 1) := by decide +kernel
theorem dL_law_470 : decode cL_law 470 = .ok (.iadd, 1) := by decide +kernel
theorem dL_law_471 : decode cL_law 471 = .ok (.iaload, 1) := by decide +kernel
theorem dL_law_472 : decode cL_law 472 = .ok (.invokevirtual 71, 3) := by decide +kernel
theorem dL_law_475 : decode cL_law 475 = .ok (.if_icmp .eq 350, 3) := by decide +kernel
theorem dL_law_478 : decode cL_law 478 = .ok (.iconst 0, 1) := by decide +kernel
theorem dL_law_479 : decode cL_law 479 = .ok (.ireturn, 1) := by decide +kernel
theorem dL_law_480 : decode cL_law 480 = .ok (.aload_n 1, 1) := by decide +kernel
theorem dL_law_481 : decode cL_law 481 = .ok (.aload_n 0, 1) := by decide +kernel
theorem dL_law_482 : decode cL_law 482 = .ok (.iload_n 3, 1) := by decide +kernel
theorem dL_law_483 : decode cL_law 483 = .ok (.iconst 1, 1) := by decide +kernel
theorem dL_law_484 : decode cL_law 484 = .ok (.iadd, 1) := by decide +kernel
theorem dL_law_485 : decode cL_law 485 = .ok (.iaload, 1) := by decide +kernel
theorem dL_law_486 : decode cL_law 486 = .ok (.aload_n 0, 1) := by decide +kernel
theorem dL_law_487 : decode cL_law 487 = .ok (.iload_n 3, 1) := by decide +kernel
theorem dL_law_488 : decode cL_law 488 = .ok (.iconst 2, 1) := by decide +kernel
theorem dL_law_489 : decode cL_law 489 = .ok (.iadd, 1) := by decide +kernel
theorem dL_law_490 : decode cL_law 490 = .ok (.iaload, 1) := by decide +kernel
theorem dL_law_491 : decode cL_law 491 = .ok (.aload_n 0, 1) := by decide +kernel
theorem dL_law_492 : decode cL_law 492 = .ok (.iload_n 3, 1) := by decide +kernel
theorem dL_law_493 : decode cL_law 493 = .ok (.iconst 3, 1) := by decide +kernel
theorem dL_law_494 : decode cL_law 494 = .ok (.iadd, 1) := by decide +kernel
theorem dL_law_495 : decode cL_law 495 = .ok (.iaload, 1) := by decide +kernel
theorem dL_law_496 : decode cL_law 496 = .ok (.invokevirtual 72, 3) := by decide +kernel
theorem dL_law_499 : decode cL_law 499 = .ok (.aload_n 2, 1) := by decide +kernel
theorem dL_law_500 : decode cL_law 500 = .ok (.aload_n 0, 1) := by decide +kernel
theorem dL_law_501 : decode cL_law 501 = .ok (.iload_n 3, 1) := by decide +kernel
theorem dL_law_502 : decode cL_law 502 = .ok (.iconst 1, 1) := by decide +kernel
theorem dL_law_503 : decode cL_law 503 = .ok (.iadd, 1) := by decide +kernel
theorem dL_law_504 : decode cL_law 504 = .ok (.iaload, 1) := by decide +kernel
theorem dL_law_505 : decode cL_law 505 = .ok (.aload_n 0, 1) := by decide +kernel
theorem dL_law_506 : decode cL_law 506 = .ok (.iload_n 3, 1) := by decide +kernel
theorem dL_law_507 : decode cL_law 507 = .ok (.iconst 2, 1) := by decide +kernel
theorem dL_law_508 : decode cL_law 508 = .ok (.iadd, 1) := by decide +kernel
theorem dL_law_509 : decode cL_law 509 = .ok (.iaload, 1) := by decide +kernel
theorem dL_law_510 : decode cL_law 510 = .ok (.aload_n 0, 1) := by decide +kernel
theorem dL_law_511 : decode cL_law 511 = .ok (.iload_n 3, 1) := by decide +kernel
theorem dL_law_512 : decode cL_law 512 = .ok (.iconst 3, 1) := by decide +kernel
theorem dL_law_513 : decode cL_law 513 = .ok (.iadd, 1) := by decide +kernel
theorem dL_law_514 : decode cL_law 514 = .ok (.iaload, 1) := by decide +kernel
theorem dL_law_515 : decode cL_law 515 = .ok (.invokevirtual 76, 3) := by decide +kernel
theorem dL_law_518 : decode cL_law 518 = .ok (.if_icmp .eq 307, 3) := by decide +kernel
theorem dL_law_521 : decode cL_law 521 = .ok (.iconst 0, 1) := by decide +kernel
theorem dL_law_522 : decode cL_law 522 = .ok (.ireturn, 1) := by decide +kernel
theorem dL_law_523 : decode cL_law 523 = .ok (.aload_n 1, 1) := by decide +kernel
theorem dL_law_524 : decode cL_law 524 = .ok (.aload_n 0, 1) := by decide +kernel
theorem dL_law_525 : decode cL_law 525 = .ok (.iload_n 3, 1) := by decide +kernel
theorem dL_law_526 : decode cL_law 526 = .ok (.iconst 1, 1) := by decide +kernel
theorem dL_law_527 : decode cL_law 527 = .ok (.iadd, 1) := by decide +kernel
theorem dL_law_528 : decode cL_law 528 = .ok (.iaload, 1) := by decide +kernel
theorem dL_law_529 : decode cL_law 529 = .ok (.aload_n 0, 1) := by decide +kernel
theorem dL_law_530 : decode cL_law 530 = .ok (.iload_n 3, 1) := by decide +kernel
theorem dL_law_531 : decode cL_law 531 = .ok (.iconst 2, 1) := by decide +kernel
theorem dL_law_532 : decode cL_law 532 = .ok (.iadd, 1) := by decide +kernel
theorem dL_law_533 : decode cL_law 533 = .ok (.iaload, 1) := by decide +kernel
theorem dL_law_534 : decode cL_law 534 = .ok (.aload_n 0, 1) := by decide +kernel
theorem dL_law_535 : decode cL_law 535 = .ok (.iload_n 3, 1) := by decide +kernel
theorem dL_law_536 : decode cL_law 536 = .ok (.iconst 3, 1) := by decide +kernel
theorem dL_law_537 : decode cL_law 537 = .ok (.iadd, 1) := by decide +kernel
theorem dL_law_538 : decode cL_law 538 = .ok (.iaload, 1) := by decide +kernel
theorem dL_law_539 : decode cL_law 539 = .ok (.aload_n 0, 1) := by decide +kernel
theorem dL_law_540 : decode cL_law 540 = .ok (.iload_n 3, 1) := by decide +kernel
theorem dL_law_541 : decode cL_law 541 = .ok (.iconst 4, 1) := by decide +kernel
theorem dL_law_542 : decode cL_law 542 = .ok (.iadd, 1) := by decide +kernel
theorem dL_law_543 : decode cL_law 543 = .ok (.iaload, 1) := by decide +kernel
theorem dL_law_544 : decode cL_law 544 = .ok (.invokevirtual 77, 3) := by decide +kernel
theorem dL_law_547 : decode cL_law 547 = .ok (.aload_n 2, 1) := by decide +kernel
theorem dL_law_548 : decode cL_law 548 = .ok (.aload_n 0, 1) := by decide +kernel
theorem dL_law_549 : decode cL_law 549 = .ok (.iload_n 3, 1) := by decide +kernel
theorem dL_law_550 : decode cL_law 550 = .ok (.iconst 1, 1) := by decide +kernel
theorem dL_law_551 : decode cL_law 551 = .ok (.iadd, 1) := by decide +kernel
theorem dL_law_552 : decode cL_law 552 = .ok (.iaload, 1) := by decide +kernel
theorem dL_law_553 : decode cL_law 553 = .ok (.aload_n 0, 1) := by decide +kernel
theorem dL_law_554 : decode cL_law 554 = .ok (.iload_n 3, 1) := by decide +kernel
theorem dL_law_555 : decode cL_law 555 = .ok (.iconst 2, 1) := by decide +kernel
theorem dL_law_556 : decode cL_law 556 = .ok (.iadd, 1) := by decide +kernel
theorem dL_law_557 : decode cL_law 557 = .ok (.iaload, 1) := by decide +kernel
theorem dL_law_558 : decode cL_law 558 = .ok (.aload_n 0, 1) := by decide +kernel
theorem dL_law_559 : decode cL_law 559 = .ok (.iload_n 3, 1) := by decide +kernel
theorem dL_law_560 : decode cL_law 560 = .ok (.iconst 3, 1) := by decide +kernel
theorem dL_law_561 : decode cL_law 561 = .ok (.iadd, 1) := by decide +kernel
theorem dL_law_562 : decode cL_law 562 = .ok (.iaload, 1) := by decide +kernel
theorem dL_law_563 : decode cL_law 563 = .ok (.aload_n 0, 1) := by decide +kernel
theorem dL_law_564 : decode cL_law 564 = .ok (.iload_n 3, 1) := by decide +kernel
theorem dL_law_565 : decode cL_law 565 = .ok (.iconst 4, 1) := by decide +kernel
theorem dL_law_566 : decode cL_law 566 = .ok (.iadd, 1) := by decide +kernel
theorem dL_law_567 : decode cL_law 567 = .ok (.iaload, 1) := by decide +kernel
theorem dL_law_568 : decode cL_law 568 = .ok (.invokevirtual 81, 3) := by decide +kernel
theorem dL_law_571 : decode cL_law 571 = .ok (.lcmp, 1) := by decide +kernel
theorem dL_law_572 : decode cL_law 572 = .ok (.ifCond .eq 253, 3) := by decide +kernel
theorem dL_law_575 : decode cL_law 575 = .ok (.iconst 0, 1) := by decide +kernel
theorem dL_law_576 : decode cL_law 576 = .ok (.ireturn, 1) := by decide +kernel
theorem dL_law_577 : decode cL_law 577 = .ok (.aload_n 1, 1) := by decide +kernel
theorem dL_law_578 : decode cL_law 578 = .ok (.aload_n 0, 1) := by decide +kernel
theorem dL_law_579 : decode cL_law 579 = .ok (.iload_n 3, 1) := by decide +kernel
theorem dL_law_580 : decode cL_law 580 = .ok (.iconst 1, 1) := by decide +kernel
theorem dL_law_581 : decode cL_law 581 = .ok (.iadd, 1) := by decide +kernel
theorem dL_law_582 : decode cL_law 582 = .ok (.iaload, 1) := by decide +kernel
theorem dL_law_583 : decode cL_law 583 = .ok (.aload_n 0, 1) := by decide +kernel
theorem dL_law_584 : decode cL_law 584 = .ok (.iload_n 3, 1) := by decide +kernel
theorem dL_law_585 : decode cL_law 585 = .ok (.iconst 2, 1) := by decide +kernel
theorem dL_law_586 : decode cL_law 586 = .ok (.iadd, 1) := by decide +kernel
theorem dL_law_587 : decode cL_law 587 = .ok (.iaload, 1) := by decide +kernel
theorem dL_law_588 : decode cL_law 588 = .ok (.aload_n 0, 1) := by decide +kernel
theorem dL_law_589 : decode cL_law 589 = .ok (.iload_n 3, 1) := by decide +kernel
theorem dL_law_590 : decode cL_law 590 = .ok (.iconst 3, 1) := by decide +kernel
theorem dL_law_591 : decode cL_law 591 = .ok (.iadd, 1) := by decide +kernel
theorem dL_law_592 : decode cL_law 592 = .ok (.iaload, 1) := by decide +kernel
theorem dL_law_593 : decode cL_law 593 = .ok (.aload_n 0, 1) := by decide +kernel
theorem dL_law_594 : decode cL_law 594 = .ok (.iload_n 3, 1) := by decide +kernel
theorem dL_law_595 : decode cL_law 595 = .ok (.iconst 4, 1) := by decide +kernel
theorem dL_law_596 : decode cL_law 596 = .ok (.iadd, 1) := by decide +kernel
theorem dL_law_597 : decode cL_law 597 = .ok (.iaload, 1) := by decide +kernel
theorem dL_law_598 : decode cL_law 598 = .ok (.invokevirtual 82, 3) := by decide +kernel
theorem dL_law_601 : decode cL_law 601 = .ok (.aload_n 2, 1) := by decide +kernel
theorem dL_law_602 : decode cL_law 602 = .ok (.aload_n 0, 1) := by decide +kernel
theorem dL_law_603 : decode cL_law 603 = .ok (.iload_n 3, 1) := by decide +kernel
theorem dL_law_604 : decode cL_law 604 = .ok (.iconst 1, 1) := by decide +kernel
theorem dL_law_605 : decode cL_law 605 = .ok (.iadd, 1) := by decide +kernel
theorem dL_law_606 : decode cL_law 606 = .ok (.iaload, 1) := by decide +kernel
theorem dL_law_607 : decode cL_law 607 = .ok (.aload_n 0, 1) := by decide +kernel
theorem dL_law_608 : decode cL_law 608 = .ok (.iload_n 3, 1) := by decide +kernel
theorem dL_law_609 : decode cL_law 609 = .ok (.iconst 2, 1) := by decide +kernel
theorem dL_law_610 : decode cL_law 610 = .ok (.iadd, 1) := by decide +kernel
theorem dL_law_611 : decode cL_law 611 = .ok (.iaload, 1) := by decide +kernel
theorem dL_law_612 : decode cL_law 612 = .ok (.aload_n 0, 1) := by decide +kernel
theorem dL_law_613 : decode cL_law 613 = .ok (.iload_n 3, 1) := by decide +kernel
theorem dL_law_614 : decode cL_law 614 = .ok (.iconst 3, 1) := by decide +kernel
theorem dL_law_615 : decode cL_law 615 = .ok (.iadd, 1) := by decide +kernel
theorem dL_law_616 : decode cL_law 616 = .ok (.iaload, 1) := by decide +kernel
theorem dL_law_617 : decode cL_law 617 = .ok (.aload_n 0, 1) := by decide +kernel
theorem dL_law_618 : decode cL_law 618 = .ok (.iload_n 3, 1) := by decide +kernel
theorem dL_law_619 : decode cL_law 619 = .ok (.iconst 4, 1) := by decide +kernel
theorem dL_law_620 : decode cL_law 620 = .ok (.iadd, 1) := by decide +kernel
theorem dL_law_621 : decode cL_law 621 = .ok (.iaload, 1) := by decide +kernel
theorem dL_law_622 : decode cL_law 622 = .ok (.invokevirtual 85, 3) := by decide +kernel
theorem dL_law_625 : decode cL_law 625 = .ok (.lcmp, 1) := by decide +kernel
theorem dL_law_626 : decode cL_law 626 = .ok (.ifCond .eq 199, 3) := by decide +kernel
theorem dL_law_629 : decode cL_law 629 = .ok (.iconst 0, 1) := by decide +kernel
theorem dL_law_630 : decode cL_law 630 = .ok (.ireturn, 1) := by decide +kernel
theorem dL_law_631 : decode cL_law 631 = .ok (.aload_n 1, 1) := by decide +kernel
theorem dL_law_632 : decode cL_law 632 = .ok (.aload_n 0, 1) := by decide +kernel
theorem dL_law_633 : decode cL_law 633 = .ok (.iload_n 3, 1) := by decide +kernel
theorem dL_law_634 : decode cL_law 634 = .ok (.iconst 1, 1) := by decide +kernel
theorem dL_law_635 : decode cL_law 635 = .ok (.iadd, 1) := by decide +kernel
theorem dL_law_636 : decode cL_law 636 = .ok (.iaload, 1) := by decide +kernel
theorem dL_law_637 : decode cL_law 637 = .ok (.invokevirtual 86, 3) := by decide +kernel
theorem dL_law_640 : decode cL_law 640 = .ok (.aload_n 2, 1) := by decide +kernel
theorem dL_law_641 : decode cL_law 641 = .ok (.aload_n 0, 1) := by decide +kernel
theorem dL_law_642 : decode cL_law 642 = .ok (.iload_n 3, 1) := by decide +kernel
theorem dL_law_643 : decode cL_law 643 = .ok (.iconst 1, 1) := by decide +kernel
theorem dL_law_644 : decode cL_law 644 = .ok (.iadd, 1) := by decide +kernel
theorem dL_law_645 : decode cL_law 645 = .ok (.iaload, 1) := by decide +kernel
theorem dL_law_646 : decode cL_law 646 = .ok (.invokevirtual 89, 3) := by decide +kernel
theorem dL_law_649 : decode cL_law 649 = .ok (.if_icmp .eq 176, 3) := by decide +kernel
theorem dL_law_652 : decode cL_law 652 = .ok (.iconst 0, 1) := by decide +kernel
theorem dL_law_653 : decode cL_law 653 = .ok (.ireturn, 1) := by decide +kernel
theorem dL_law_654 : decode cL_law 654 = .ok (.aload_n 1, 1) := by decide +kernel
theorem dL_law_655 : decode cL_law 655 = .ok (.aload_n 0, 1) := by decide +kernel
theorem dL_law_656 : decode cL_law 656 = .ok (.iload_n 3, 1) := by decide +kernel
theorem dL_law_657 : decode cL_law 657 = .ok (.iconst 1, 1) := by decide +kernel
theorem dL_law_658 : decode cL_law 658 = .ok (.iadd, 1) := by decide +kernel
theorem dL_law_659 : decode cL_law 659 = .ok (.iaload, 1) := by decide +kernel
theorem dL_law_660 : decode cL_law 660 = .ok (.aload_n 0, 1) := by decide +kernel
theorem dL_law_661 : decode cL_law 661 = .ok (.iload_n 3, 1) := by decide +kernel
theorem dL_law_662 : decode cL_law 662 = .ok (.iconst 2, 1) := by decide +kernel
theorem dL_law_663 : decode cL_law 663 = .ok (.iadd, 1) := by decide +kernel
theorem dL_law_664 : decode cL_law 664 = .ok (.iaload, 1) := by decide +kernel
theorem dL_law_665 : decode cL_law 665 = .ok (.invokevirtual 90, 3) := by decide +kernel
theorem dL_law_668 : decode cL_law 668 = .ok (.aload_n 2, 1) := by decide +kernel
theorem dL_law_669 : decode cL_law 669 = .ok (.aload_n 0, 1) := by decide +kernel
theorem dL_law_670 : decode cL_law 670 = .ok (.iload_n 3, 1) := by decide +kernel
theorem dL_law_671 : decode cL_law 671 = .ok (.iconst 1, 1) := by decide +kernel
theorem dL_law_672 : decode cL_law 672 = .ok (.iadd, 1) := by decide +kernel
theorem dL_law_673 : decode cL_law 673 = .ok (.iaload, 1) := by decide +kernel
theorem dL_law_674 : decode cL_law 674 = .ok (.aload_n 0, 1) := by decide +kernel
theorem dL_law_675 : decode cL_law 675 = .ok (.iload_n 3, 1) := by decide +kernel
theorem dL_law_676 : decode cL_law 676 = .ok (.iconst 2, 1) := by decide +kernel
theorem dL_law_677 : decode cL_law 677 = .ok (.iadd, 1) := by decide +kernel
theorem dL_law_678 : decode cL_law 678 = .ok (.iaload, 1) := by decide +kernel
theorem dL_law_679 : decode cL_law 679 = .ok (.invokevirtual 93, 3) := by decide +kernel
theorem dL_law_682 : decode cL_law 682 = .ok (.if_icmp .eq 143, 3) := by decide +kernel
theorem dL_law_685 : decode cL_law 685 = .ok (.iconst 0, 1) := by decide +kernel
theorem dL_law_686 : decode cL_law 686 = .ok (.ireturn, 1) := by decide +kernel
theorem dL_law_687 : decode cL_law 687 = .ok (.aload_n 1, 1) := by decide +kernel
theorem dL_law_688 : decode cL_law 688 = .ok (.invokevirtual 94, 3) := by decide +kernel
theorem dL_law_691 : decode cL_law 691 = .ok (.aload_n 2, 1) := by decide +kernel
theorem dL_law_692 : decode cL_law 692 = .ok (.invokevirtual 97, 3) := by decide +kernel
theorem dL_law_695 : decode cL_law 695 = .ok (.if_icmp .eq 130, 3) := by decide +kernel
theorem dL_law_698 : decode cL_law 698 = .ok (.iconst 0, 1) := by decide +kernel
theorem dL_law_699 : decode cL_law 699 = .ok (.ireturn, 1) := by decide +kernel
theorem dL_law_700 : decode cL_law 700 = .ok (.aload_n 1, 1) := by decide +kernel
theorem dL_law_701 : decode cL_law 701 = .ok (.invokevirtual 98, 3) := by decide +kernel
theorem dL_law_704 : decode cL_law 704 = .ok (.aload_n 2, 1) := by decide +kernel
theorem dL_law_705 : decode cL_law 705 = .ok (.invokevirtual 101, 3) := by decide +kernel
theorem dL_law_708 : decode cL_law 708 = .ok (.if_icmp .eq 117, 3) := by decide +kernel
theorem dL_law_711 : decode cL_law 711 = .ok (.iconst 0, 1) := by decide +kernel
theorem dL_law_712 : decode cL_law 712 = .ok (.ireturn, 1) := by decide +kernel
theorem dL_law_713 : decode cL_law 713 = .ok (.aload_n 1, 1) := by decide +kernel
theorem dL_law_714 : decode cL_law 714 = .ok (.aload_n 0, 1) := by decide +kernel
theorem dL_law_715 : decode cL_law 715 = .ok (.iload_n 3, 1) := by decide +kernel
theorem dL_law_716 : decode cL_law 716 = .ok (.iconst 1, 1) := by decide +kernel
theorem dL_law_717 : decode cL_law 717 = .ok (.iadd, 1) := by decide +kernel
theorem dL_law_718 : decode cL_law 718 = .ok (.iaload, 1) := by decide +kernel
theorem dL_law_719 : decode cL_law 719 = .ok (.aload_n 0, 1) := by decide +kernel
theorem dL_law_720 : decode cL_law 720 = .ok (.iload_n 3, 1) := by decide +kernel
theorem dL_law_721 : decode cL_law 721 = .ok (.iconst 2, 1) := by decide +kernel
theorem dL_law_722 : decode cL_law 722 = .ok (.iadd, 1) := by decide +kernel
theorem dL_law_723 : decode cL_law 723 = .ok (.iaload, 1) := by decide +kernel
theorem dL_law_724 : decode cL_law 724 = .ok (.aload_n 0, 1) := by decide +kernel
theorem dL_law_725 : decode cL_law 725 = .ok (.iload_n 3, 1) := by decide +kernel
theorem dL_law_726 : decode cL_law 726 = .ok (.iconst 3, 1) := by decide +kernel
theorem dL_law_727 : decode cL_law 727 = .ok (.iadd, 1) := by decide +kernel
theorem dL_law_728 : decode cL_law 728 = .ok (.iaload, 1) := by decide +kernel
theorem dL_law_729 : decode cL_law 729 = .ok (.invokevirtual 102, 3) := by decide +kernel
theorem dL_law_732 : decode cL_law 732 = .ok (.aload_n 2, 1) := by decide +kernel
theorem dL_law_733 : decode cL_law 733 = .ok (.aload_n 0, 1) := by decide +kernel
theorem dL_law_734 : decode cL_law 734 = .ok (.iload_n 3, 1) := by decide +kernel
theorem dL_law_735 : decode cL_law 735 = .ok (.iconst 1, 1) := by decide +kernel
theorem dL_law_736 : decode cL_law 736 = .ok (.iadd, 1) := by decide +kernel
theorem dL_law_737 : decode cL_law 737 = .ok (.iaload, 1) := by decide +kernel
theorem dL_law_738 : decode cL_law 738 = .ok (.aload_n 0, 1) := by decide +kernel
theorem dL_law_739 : decode cL_law 739 = .ok (.iload_n 3, 1) := by decide +kernel
theorem dL_law_740 : decode cL_law 740 = .ok (.iconst 2, 1) := by decide +kernel
theorem dL_law_741 : decode cL_law 741 = .ok (.iadd, 1) := by decide +kernel
theorem dL_law_742 : decode cL_law 742 = .ok (.iaload, 1) := by decide +kernel
theorem dL_law_743 : decode cL_law 743 = .ok (.aload_n 0, 1) := by decide +kernel
theorem dL_law_744 : decode cL_law 744 = .ok (.iload_n 3, 1) := by decide +kernel
theorem dL_law_745 : decode cL_law 745 = .ok (.iconst 3, 1) := by decide +kernel
theorem dL_law_746 : decode cL_law 746 = .ok (.iadd, 1) := by decide +kernel
theorem dL_law_747 : decode cL_law 747 = .ok (.iaload, 1) := by decide +kernel
theorem dL_law_748 : decode cL_law 748 = .ok (.invokevirtual 105, 3) := by decide +kernel
theorem dL_law_751 : decode cL_law 751 = .ok (.if_icmp .eq 74, 3) := by decide +kernel
theorem dL_law_754 : decode cL_law 754 = .ok (.iconst 0, 1) := by decide +kernel
theorem dL_law_755 : decode cL_law 755 = .ok (.ireturn, 1) := by decide +kernel
theorem dL_law_756 : decode cL_law 756 = .ok (.aload_n 1, 1) := by decide +kernel
theorem dL_law_757 : decode cL_law 757 = .ok (.aload_n 0, 1) := by decide +kernel
theorem dL_law_758 : decode cL_law 758 = .ok (.iload_n 3, 1) := by decide +kernel
theorem dL_law_759 : decode cL_law 759 = .ok (.iconst 1, 1) := by decide +kernel
theorem dL_law_760 : decode cL_law 760 = .ok (.iadd, 1) := by decide +kernel
theorem dL_law_761 : decode cL_law 761 = .ok (.iaload, 1) := by decide +kernel
theorem dL_law_762 : decode cL_law 762 = .ok (.invokevirtual 106, 3) := by decide +kernel
theorem dL_law_765 : decode cL_law 765 = .ok (.aload_n 2, 1) := by decide +kernel
theorem dL_law_766 : decode cL_law 766 = .ok (.aload_n 0, 1) := by decide +kernel
theorem dL_law_767 : decode cL_law 767 = .ok (.iload_n 3, 1) := by decide +kernel
theorem dL_law_768 : decode cL_law 768 = .ok (.iconst 1, 1) := by decide +kernel
theorem dL_law_769 : decode cL_law 769 = .ok (.iadd, 1) := by decide +kernel
theorem dL_law_770 : decode cL_law 770 = .ok (.iaload, 1) := by decide +kernel
theorem dL_law_771 : decode cL_law 771 = .ok (.invokevirtual 109, 3) := by decide +kernel
theorem dL_law_774 : decode cL_law 774 = .ok (.if_icmp .eq 51, 3) := by decide +kernel
theorem dL_law_777 : decode cL_law 777 = .ok (.iconst 0, 1) := by decide +kernel
theorem dL_law_778 : decode cL_law 778 = .ok (.ireturn, 1) := by decide +kernel
theorem dL_law_779 : decode cL_law 779 = .ok (.aload_n 1, 1) := by decide +kernel
theorem dL_law_780 : decode cL_law 780 = .ok (.aload_n 0, 1) := by decide +kernel
theorem dL_law_781 : decode cL_law 781 = .ok (.iload_n 3, 1) := by decide +kernel
theorem dL_law_782 : decode cL_law 782 = .ok (.iconst 1, 1) := by decide +kernel
theorem dL_law_783 : decode cL_law 783 = .ok (.iadd, 1) := by decide +kernel
theorem dL_law_784 : decode cL_law 784 = .ok (.iaload, 1) := by decide +kernel
theorem dL_law_785 : decode cL_law 785 = .ok (.invokevirtual 110, 3) := by decide +kernel
theorem dL_law_788 : decode cL_law 788 = .ok (.aload_n 2, 1) := by decide +kernel
theorem dL_law_789 : decode cL_law 789 = .ok (.aload_n 0, 1) := by decide +kernel
theorem dL_law_790 : decode cL_law 790 = .ok (.iload_n 3, 1) := by decide +kernel
theorem dL_law_791 : decode cL_law 791 = .ok (.iconst 1, 1) := by decide +kernel
theorem dL_law_792 : decode cL_law 792 = .ok (.iadd, 1) := by decide +kernel
theorem dL_law_793 : decode cL_law 793 = .ok (.iaload, 1) := by decide +kernel
theorem dL_law_794 : decode cL_law 794 = .ok (.invokevirtual 113, 3) := by decide +kernel
theorem dL_law_797 : decode cL_law 797 = .ok (.if_icmp .eq 28, 3) := by decide +kernel
theorem dL_law_800 : decode cL_law 800 = .ok (.iconst 0, 1) := by decide +kernel
theorem dL_law_801 : decode cL_law 801 = .ok (.ireturn, 1) := by decide +kernel
theorem dL_law_802 : decode cL_law 802 = .ok (.aload_n 1, 1) := by decide +kernel
theorem dL_law_803 : decode cL_law 803 = .ok (.aload_n 0, 1) := by decide +kernel
theorem dL_law_804 : decode cL_law 804 = .ok (.iload_n 3, 1) := by decide +kernel
theorem dL_law_805 : decode cL_law 805 = .ok (.iconst 1, 1) := by decide +kernel
theorem dL_law_806 : decode cL_law 806 = .ok (.iadd, 1) := by decide +kernel
theorem dL_law_807 : decode cL_law 807 = .ok (.iaload, 1) := by decide +kernel
theorem dL_law_808 : decode cL_law 808 = .ok (.invokevirtual 114, 3) := by decide +kernel
theorem dL_law_811 : decode cL_law 811 = .ok (.aload_n 2, 1) := by decide +kernel
theorem dL_law_812 : decode cL_law 812 = .ok (.aload_n 0, 1) := by decide +kernel
theorem dL_law_813 : decode cL_law 813 = .ok (.iload_n 3, 1) := by decide +kernel
theorem dL_law_814 : decode cL_law 814 = .ok (.iconst 1, 1) := by decide +kernel
theorem dL_law_815 : decode cL_law 815 = .ok (.iadd, 1) := by decide +kernel
theorem dL_law_816 : decode cL_law 816 = .ok (.iaload, 1) := by decide +kernel
theorem dL_law_817 : decode cL_law 817 = .ok (.invokevirtual 117, 3) := by decide +kernel
theorem dL_law_820 : decode cL_law 820 = .ok (.if_icmp .eq 5, 3) := by decide +kernel
theorem dL_law_823 : decode cL_law 823 = .ok (.iconst 0, 1) := by decide +kernel
theorem dL_law_824 : decode cL_law 824 = .ok (.ireturn, 1) := by decide +kernel
theorem dL_law_825 : decode cL_law 825 = .ok (.iinc 3 5, 3) := by decide +kernel
theorem dL_law_828 : decode cL_law 828 = .ok (.goto (-810), 3) := by decide +kernel
theorem dL_law_831 : decode cL_law 831 = .ok (.iconst 1, 1) := by decide +kernel
theorem dL_law_832 : decode cL_law 832 = .ok (.ireturn, 1) := by decide +kernel
abbrev vwCl : List vw_C := [(RX0, TX0, 14), (RX1, TX1, 8), (RX2, TX2, 6), (RX3, TX3, 8), (RX4, TX4, 34)]
