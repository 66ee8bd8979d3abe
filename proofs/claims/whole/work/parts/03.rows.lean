theorem dX0_init_0 : decode cX0_init 0 = .ok (.aload_n 0, 1) := by decide +kernel
theorem dX0_init_1 : decode cX0_init 1 = .ok (.invokespecial 3, 3) := by decide +kernel
theorem dX0_init_4 : decode cX0_init 4 = .ok (.aload_n 0, 1) := by decide +kernel
theorem dX0_init_5 : decode cX0_init 5 = .ok (.bipush 10, 2) := by decide +kernel
theorem dX0_init_7 : decode cX0_init 7 = .ok (.putfield 9, 3) := by decide +kernel
theorem dX0_init_10 : decode cX0_init 10 = .ok (.aload_n 0, 1) := by decide +kernel
theorem dX0_init_11 : decode cX0_init 11 = .ok (.iconst 1, 1) := by decide +kernel
theorem dX0_init_12 : decode cX0_init 12 = .ok (.putfield 15, 3) := by decide +kernel
theorem dX0_init_15 : decode cX0_init 15 = .ok (.aload_n 0, 1) := by decide +kernel
theorem dX0_init_16 : decode cX0_init 16 = .ok (.iconst 0, 1) := by decide +kernel
theorem dX0_init_17 : decode cX0_init 17 = .ok (.putfield 18, 3) := by decide +kernel
theorem dX0_init_20 : decode cX0_init 20 = .ok (.aload_n 0, 1) := by decide +kernel
theorem dX0_init_21 : decode cX0_init 21 = .ok (.iconst 0, 1) := by decide +kernel
theorem dX0_init_22 : decode cX0_init 22 = .ok (.putfield 21, 3) := by decide +kernel
theorem dX0_init_25 : decode cX0_init 25 = .ok (.aload_n 0, 1) := by decide +kernel
theorem dX0_init_26 : decode cX0_init 26 = .ok (.iconst 0, 1) := by decide +kernel
theorem dX0_init_27 : decode cX0_init 27 = .ok (.putfield 24, 3) := by decide +kernel
theorem dX0_init_30 : decode cX0_init 30 = .ok (.aload_n 0, 1) := by decide +kernel
theorem dX0_init_31 : decode cX0_init 31 = .ok (.iconst 0, 1) := by decide +kernel
theorem dX0_init_32 : decode cX0_init 32 = .ok (.putfield 27, 3) := by decide +kernel
theorem dX0_init_35 : decode cX0_init 35 = .ok (.aload_n 0, 1) := by decide +kernel
theorem dX0_init_36 : decode cX0_init 36 = .ok (.iconst 0, 1) := by decide +kernel
theorem dX0_init_37 : decode cX0_init 37 = .ok (.putfield 30, 3) := by decide +kernel
theorem dX0_init_40 : decode cX0_init 40 = .ok (.aload_n 0, 1) := by decide +kernel
theorem dX0_init_41 : decode cX0_init 41 = .ok (.bipush 6, 2) := by decide +kernel
theorem dX0_init_43 : decode cX0_init 43 = .ok (.newarray .int, 2) := by decide +kernel
theorem dX0_init_45 : decode cX0_init 45 = .ok (.putfield 34, 3) := by decide +kernel
theorem dX0_init_48 : decode cX0_init 48 = .ok (.aload_n 0, 1) := by decide +kernel
theorem dX0_init_49 : decode cX0_init 49 = .ok (.bipush 6, 2) := by decide +kernel
theorem dX0_init_51 : decode cX0_init 51 = .ok (.newarray .int, 2) := by decide +kernel
theorem dX0_init_53 : decode cX0_init 53 = .ok (.putfield 38, 3) := by decide +kernel
theorem dX0_init_56 : decode cX0_init 56 = .ok (.aload_n 0, 1) := by decide +kernel
theorem dX0_init_57 : decode cX0_init 57 = .ok (.bipush 6, 2) := by decide +kernel
theorem dX0_init_59 : decode cX0_init 59 = .ok (.newarray .int, 2) := by decide +kernel
theorem dX0_init_61 : decode cX0_init 61 = .ok (.putfield 41, 3) := by decide +kernel
theorem dX0_init_64 : decode cX0_init 64 = .ok (.aload_n 0, 1) := by decide +kernel
theorem dX0_init_65 : decode cX0_init 65 = .ok (.bipush 6, 2) := by decide +kernel
theorem dX0_init_67 : decode cX0_init 67 = .ok (.newarray .int, 2) := by decide +kernel
theorem dX0_init_69 : decode cX0_init 69 = .ok (.putfield 44, 3) := by decide +kernel
theorem dX0_init_72 : decode cX0_init 72 = .ok (.aload_n 0, 1) := by decide +kernel
theorem dX0_init_73 : decode cX0_init 73 = .ok (.bipush 6, 2) := by decide +kernel
theorem dX0_init_75 : decode cX0_init 75 = .ok (.newarray .int, 2) := by decide +kernel
theorem dX0_init_77 : decode cX0_init 77 = .ok (.putfield 47, 3) := by decide +kernel
theorem dX0_init_80 : decode cX0_init 80 = .ok (.aload_n 0, 1) := by decide +kernel
theorem dX0_init_81 : decode cX0_init 81 = .ok (.bipush 6, 2) := by decide +kernel
theorem dX0_init_83 : decode cX0_init 83 = .ok (.newarray .int, 2) := by decide +kernel
theorem dX0_init_85 : decode cX0_init 85 = .ok (.putfield 50, 3) := by decide +kernel
theorem dX0_init_88 : decode cX0_init 88 = .ok (.aload_n 0, 1) := by decide +kernel
theorem dX0_init_89 : decode cX0_init 89 = .ok (.bipush 6, 2) := by decide +kernel
theorem dX0_init_91 : decode cX0_init 91 = .ok (.newarray .int, 2) := by decide +kernel
theorem dX0_init_93 : decode cX0_init 93 = .ok (.putfield 53, 3) := by decide +kernel
theorem dX0_init_96 : decode cX0_init 96 = .ok (.return_, 1) := by decide +kernel
theorem dX0_setting_0 : decode cX0_setting 0 = .ok (.iload_n 1, 1) := by decide +kernel
theorem dX0_setting_1 : decode cX0_setting 1 = .ok (.tableswitch 42 0 2 #[27, 32, 37], 27) := by decide +kernel
theorem dX0_setting_28 : decode cX0_setting 28 = .ok (.aload_n 0, 1) := by decide +kernel
theorem dX0_setting_29 : decode cX0_setting 29 = .ok (.getfield 9, 3) := by decide +kernel
theorem dX0_setting_32 : decode cX0_setting 32 = .ok (.ireturn, 1) := by decide +kernel
theorem dX0_setting_33 : decode cX0_setting 33 = .ok (.aload_n 0, 1) := by decide +kernel
theorem dX0_setting_34 : decode cX0_setting 34 = .ok (.getfield 15, 3) := by decide +kernel
theorem dX0_setting_37 : decode cX0_setting 37 = .ok (.ireturn, 1) := by decide +kernel
theorem dX0_setting_38 : decode cX0_setting 38 = .ok (.aload_n 0, 1) := by decide +kernel
theorem dX0_setting_39 : decode cX0_setting 39 = .ok (.getfield 18, 3) := by decide +kernel
theorem dX0_setting_42 : decode cX0_setting 42 = .ok (.ireturn, 1) := by decide +kernel
theorem dX0_setting_43 : decode cX0_setting 43 = .ok (.aload_n 0, 1) := by decide +kernel
theorem dX0_setting_44 : decode cX0_setting 44 = .ok (.getfield 21, 3) := by decide +kernel
theorem dX0_setting_47 : decode cX0_setting 47 = .ok (.ireturn, 1) := by decide +kernel
theorem dX0_change_0 : decode cX0_change 0 = .ok (.iload_n 1, 1) := by decide +kernel
theorem dX0_change_1 : decode cX0_change 1 = .ok (.tableswitch 51 0 2 #[27, 35, 43], 27) := by decide +kernel
theorem dX0_change_28 : decode cX0_change 28 = .ok (.aload_n 0, 1) := by decide +kernel
theorem dX0_change_29 : decode cX0_change 29 = .ok (.iload_n 2, 1) := by decide +kernel
theorem dX0_change_30 : decode cX0_change 30 = .ok (.putfield 9, 3) := by decide +kernel
theorem dX0_change_33 : decode cX0_change 33 = .ok (.goto 24, 3) := by decide +kernel
theorem dX0_change_36 : decode cX0_change 36 = .ok (.aload_n 0, 1) := by decide +kernel
theorem dX0_change_37 : decode cX0_change 37 = .ok (.iload_n 2, 1) := by decide +kernel
theorem dX0_change_38 : decode cX0_change 38 = .ok (.putfield 15, 3) := by decide +kernel
theorem dX0_change_41 : decode cX0_change 41 = .ok (.goto 16, 3) := by decide +kernel
theorem dX0_change_44 : decode cX0_change 44 = .ok (.aload_n 0, 1) := by decide +kernel
theorem dX0_change_45 : decode cX0_change 45 = .ok (.iload_n 2, 1) := by decide +kernel
theorem dX0_change_46 : decode cX0_change 46 = .ok (.putfield 18, 3) := by decide +kernel
theorem dX0_change_49 : decode cX0_change 49 = .ok (.goto 8, 3) := by decide +kernel
theorem dX0_change_52 : decode cX0_change 52 = .ok (.aload_n 0, 1) := by decide +kernel
theorem dX0_change_53 : decode cX0_change 53 = .ok (.iload_n 2, 1) := by decide +kernel
theorem dX0_change_54 : decode cX0_change 54 = .ok (.putfield 21, 3) := by decide +kernel
theorem dX0_change_57 : decode cX0_change 57 = .ok (.return_, 1) := by decide +kernel
set_option maxRecDepth 20000 in
theorem ggX0_take_X3_copyRow : GoodIn wsX0_take wsX3_copyRow := goodIn_r _ [15, 16, 17, 14, 18] (by decide +kernel) (by decide +kernel)
set_option maxRecDepth 20000 in
theorem gX0_take_X3_copyRow_n62 : GoodIn wsX0_take (wsX3_copyRow) := ggX0_take_X3_copyRow
set_option maxRecDepth 20000 in
theorem ggX0_take_X3_put : GoodIn wsX0_take wsX3_put := goodIn_r _ [20] (by decide +kernel) (by decide +kernel)
set_option maxRecDepth 20000 in
theorem gX0_take_X3_put_n69 : GoodIn wsX0_take (wsX3_put) := ggX0_take_X3_put
theorem dX0_take_0 : decode cX0_take 0 = .ok (.aload_n 0, 1) := by decide +kernel
theorem dX0_take_1 : decode cX0_take 1 = .ok (.aload_n 1, 1) := by decide +kernel
theorem dX0_take_2 : decode cX0_take 2 = .ok (.getfield 56, 3) := by decide +kernel
theorem dX0_take_5 : decode cX0_take 5 = .ok (.putfield 24, 3) := by decide +kernel
theorem dX0_take_8 : decode cX0_take 8 = .ok (.aload_n 1, 1) := by decide +kernel
theorem dX0_take_9 : decode cX0_take 9 = .ok (.getfield 61, 3) := by decide +kernel
theorem dX0_take_12 : decode cX0_take 12 = .ok (.aload_n 0, 1) := by decide +kernel
theorem dX0_take_13 : decode cX0_take 13 = .ok (.getfield 34, 3) := by decide +kernel
theorem dX0_take_16 : decode cX0_take 16 = .ok (.invokestatic 62, 3) := by decide +kernel
theorem dX0_take_19 : decode cX0_take 19 = .ok (.aload_n 1, 1) := by decide +kernel
theorem dX0_take_20 : decode cX0_take 20 = .ok (.getfield 66, 3) := by decide +kernel
theorem dX0_take_23 : decode cX0_take 23 = .ok (.aload_n 0, 1) := by decide +kernel
theorem dX0_take_24 : decode cX0_take 24 = .ok (.getfield 38, 3) := by decide +kernel
theorem dX0_take_27 : decode cX0_take 27 = .ok (.invokestatic 62, 3) := by decide +kernel
theorem dX0_take_30 : decode cX0_take 30 = .ok (.aload_n 1, 1) := by decide +kernel
theorem dX0_take_31 : decode cX0_take 31 = .ok (.getfield 67, 3) := by decide +kernel
theorem dX0_take_34 : decode cX0_take 34 = .ok (.aload_n 0, 1) := by decide +kernel
theorem dX0_take_35 : decode cX0_take 35 = .ok (.getfield 41, 3) := by decide +kernel
theorem dX0_take_38 : decode cX0_take 38 = .ok (.invokestatic 62, 3) := by decide +kernel
theorem dX0_take_41 : decode cX0_take 41 = .ok (.aload_n 1, 1) := by decide +kernel
theorem dX0_take_42 : decode cX0_take 42 = .ok (.getfield 68, 3) := by decide +kernel
theorem dX0_take_45 : decode cX0_take 45 = .ok (.aload_n 0, 1) := by decide +kernel
theorem dX0_take_46 : decode cX0_take 46 = .ok (.getfield 44, 3) := by decide +kernel
theorem dX0_take_49 : decode cX0_take 49 = .ok (.invokestatic 62, 3) := by decide +kernel
theorem dX0_take_52 : decode cX0_take 52 = .ok (.iconst 0, 1) := by decide +kernel
theorem dX0_take_53 : decode cX0_take 53 = .ok (.istore_n 2, 1) := by decide +kernel
theorem dX0_take_54 : decode cX0_take 54 = .ok (.iload_n 2, 1) := by decide +kernel
theorem dX0_take_55 : decode cX0_take 55 = .ok (.bipush 6, 2) := by decide +kernel
theorem dX0_take_57 : decode cX0_take 57 = .ok (.if_icmp .ge 18, 3) := by decide +kernel
theorem dX0_take_60 : decode cX0_take 60 = .ok (.aload_n 0, 1) := by decide +kernel
theorem dX0_take_61 : decode cX0_take 61 = .ok (.getfield 47, 3) := by decide +kernel
theorem dX0_take_64 : decode cX0_take 64 = .ok (.iload_n 2, 1) := by decide +kernel
theorem dX0_take_65 : decode cX0_take 65 = .ok (.iload_n 2, 1) := by decide +kernel
theorem dX0_take_66 : decode cX0_take 66 = .ok (.invokestatic 69, 3) := by decide +kernel
theorem dX0_take_69 : decode cX0_take 69 = .ok (.iinc 2 1, 3) := by decide +kernel
theorem dX0_take_72 : decode cX0_take 72 = .ok (.goto (-18), 3) := by decide +kernel
theorem dX0_take_75 : decode cX0_take 75 = .ok (.aload_n 0, 1) := by decide +kernel
theorem dX0_take_76 : decode cX0_take 76 = .ok (.iconst 0, 1) := by decide +kernel
theorem dX0_take_77 : decode cX0_take 77 = .ok (.putfield 27, 3) := by decide +kernel
theorem dX0_take_80 : decode cX0_take 80 = .ok (.return_, 1) := by decide +kernel
set_option maxRecDepth 20000 in
theorem ggX0_copy_X3_copyRow : GoodIn wsX0_copy wsX3_copyRow := goodIn_r _ [16, 17, 18, 15, 19] (by decide +kernel) (by decide +kernel)
set_option maxRecDepth 20000 in
theorem gX0_copy_X3_copyRow_n62 : GoodIn wsX0_copy (wsX3_copyRow) := ggX0_copy_X3_copyRow
theorem dX0_copy_0 : decode cX0_copy 0 = .ok (.aload_n 0, 1) := by decide +kernel
theorem dX0_copy_1 : decode cX0_copy 1 = .ok (.aload_n 1, 1) := by decide +kernel
theorem dX0_copy_2 : decode cX0_copy 2 = .ok (.getfield 9, 3) := by decide +kernel
theorem dX0_copy_5 : decode cX0_copy 5 = .ok (.putfield 9, 3) := by decide +kernel
theorem dX0_copy_8 : decode cX0_copy 8 = .ok (.aload_n 0, 1) := by decide +kernel
theorem dX0_copy_9 : decode cX0_copy 9 = .ok (.aload_n 1, 1) := by decide +kernel
theorem dX0_copy_10 : decode cX0_copy 10 = .ok (.getfield 15, 3) := by decide +kernel
theorem dX0_copy_13 : decode cX0_copy 13 = .ok (.putfield 15, 3) := by decide +kernel
theorem dX0_copy_16 : decode cX0_copy 16 = .ok (.aload_n 0, 1) := by decide +kernel
theorem dX0_copy_17 : decode cX0_copy 17 = .ok (.aload_n 1, 1) := by decide +kernel
theorem dX0_copy_18 : decode cX0_copy 18 = .ok (.getfield 18, 3) := by decide +kernel
theorem dX0_copy_21 : decode cX0_copy 21 = .ok (.putfield 18, 3) := by decide +kernel
theorem dX0_copy_24 : decode cX0_copy 24 = .ok (.aload_n 0, 1) := by decide +kernel
theorem dX0_copy_25 : decode cX0_copy 25 = .ok (.aload_n 1, 1) := by decide +kernel
theorem dX0_copy_26 : decode cX0_copy 26 = .ok (.getfield 21, 3) := by decide +kernel
theorem dX0_copy_29 : decode cX0_copy 29 = .ok (.putfield 21, 3) := by decide +kernel
theorem dX0_copy_32 : decode cX0_copy 32 = .ok (.aload_n 0, 1) := by decide +kernel
theorem dX0_copy_33 : decode cX0_copy 33 = .ok (.aload_n 1, 1) := by decide +kernel
theorem dX0_copy_34 : decode cX0_copy 34 = .ok (.getfield 24, 3) := by decide +kernel
theorem dX0_copy_37 : decode cX0_copy 37 = .ok (.putfield 24, 3) := by decide +kernel
theorem dX0_copy_40 : decode cX0_copy 40 = .ok (.aload_n 0, 1) := by decide +kernel
theorem dX0_copy_41 : decode cX0_copy 41 = .ok (.aload_n 1, 1) := by decide +kernel
theorem dX0_copy_42 : decode cX0_copy 42 = .ok (.getfield 27, 3) := by decide +kernel
theorem dX0_copy_45 : decode cX0_copy 45 = .ok (.putfield 27, 3) := by decide +kernel
theorem dX0_copy_48 : decode cX0_copy 48 = .ok (.aload_n 1, 1) := by decide +kernel
theorem dX0_copy_49 : decode cX0_copy 49 = .ok (.getfield 34, 3) := by decide +kernel
theorem dX0_copy_52 : decode cX0_copy 52 = .ok (.aload_n 0, 1) := by decide +kernel
theorem dX0_copy_53 : decode cX0_copy 53 = .ok (.getfield 34, 3) := by decide +kernel
theorem dX0_copy_56 : decode cX0_copy 56 = .ok (.invokestatic 62, 3) := by decide +kernel
theorem dX0_copy_59 : decode cX0_copy 59 = .ok (.aload_n 1, 1) := by decide +kernel
theorem dX0_copy_60 : decode cX0_copy 60 = .ok (.getfield 38, 3) := by decide +kernel
theorem dX0_copy_63 : decode cX0_copy 63 = .ok (.aload_n 0, 1) := by decide +kernel
theorem dX0_copy_64 : decode cX0_copy 64 = .ok (.getfield 38, 3) := by decide +kernel
theorem dX0_copy_67 : decode cX0_copy 67 = .ok (.invokestatic 62, 3) := by decide +kernel
theorem dX0_copy_70 : decode cX0_copy 70 = .ok (.aload_n 1, 1) := by decide +kernel
theorem dX0_copy_71 : decode cX0_copy 71 = .ok (.getfield 41, 3) := by decide +kernel
theorem dX0_copy_74 : decode cX0_copy 74 = .ok (.aload_n 0, 1) := by decide +kernel
theorem dX0_copy_75 : decode cX0_copy 75 = .ok (.getfield 41, 3) := by decide +kernel
theorem dX0_copy_78 : decode cX0_copy 78 = .ok (.invokestatic 62, 3) := by decide +kernel
theorem dX0_copy_81 : decode cX0_copy 81 = .ok (.aload_n 1, 1) := by decide +kernel
theorem dX0_copy_82 : decode cX0_copy 82 = .ok (.getfield 44, 3) := by decide +kernel
theorem dX0_copy_85 : decode cX0_copy 85 = .ok (.aload_n 0, 1) := by decide +kernel
theorem dX0_copy_86 : decode cX0_copy 86 = .ok (.getfield 44, 3) := by decide +kernel
theorem dX0_copy_89 : decode cX0_copy 89 = .ok (.invokestatic 62, 3) := by decide +kernel
theorem dX0_copy_92 : decode cX0_copy 92 = .ok (.aload_n 1, 1) := by decide +kernel
theorem dX0_copy_93 : decode cX0_copy 93 = .ok (.getfield 47, 3) := by decide +kernel
theorem dX0_copy_96 : decode cX0_copy 96 = .ok (.aload_n 0, 1) := by decide +kernel
theorem dX0_copy_97 : decode cX0_copy 97 = .ok (.getfield 47, 3) := by decide +kernel
theorem dX0_copy_100 : decode cX0_copy 100 = .ok (.invokestatic 62, 3) := by decide +kernel
theorem dX0_copy_103 : decode cX0_copy 103 = .ok (.aload_n 1, 1) := by decide +kernel
theorem dX0_copy_104 : decode cX0_copy 104 = .ok (.getfield 50, 3) := by decide +kernel
theorem dX0_copy_107 : decode cX0_copy 107 = .ok (.aload_n 0, 1) := by decide +kernel
theorem dX0_copy_108 : decode cX0_copy 108 = .ok (.getfield 50, 3) := by decide +kernel
theorem dX0_copy_111 : decode cX0_copy 111 = .ok (.invokestatic 62, 3) := by decide +kernel
theorem dX0_copy_114 : decode cX0_copy 114 = .ok (.aload_n 1, 1) := by decide +kernel
theorem dX0_copy_115 : decode cX0_copy 115 = .ok (.getfield 53, 3) := by decide +kernel
theorem dX0_copy_118 : decode cX0_copy 118 = .ok (.aload_n 0, 1) := by decide +kernel
theorem dX0_copy_119 : decode cX0_copy 119 = .ok (.getfield 53, 3) := by decide +kernel
theorem dX0_copy_122 : decode cX0_copy 122 = .ok (.invokestatic 62, 3) := by decide +kernel
theorem dX0_copy_125 : decode cX0_copy 125 = .ok (.return_, 1) := by decide +kernel
set_option maxRecDepth 20000 in
theorem ggX0_floats_X0_floatsBy : GoodIn wsX0_floats wsX0_floatsBy := goodIn_r _ [7, 8, 9, 10, 11, 12, 13, 14, 15, 16, 17, 18, 19, 20, 21, 22, 23, 24, 25] (by decide +kernel) (by decide +kernel)
set_option maxRecDepth 20000 in
theorem gX0_floats_X0_floatsBy : GoodIn wsX0_floats (wsV RX0 73 RX0 yX0_floatsBy wsX0_floatsBy) := goodIn_app (goodIn_of _ (by decide +kernel)) ggX0_floats_X0_floatsBy
theorem dX0_floats_0 : decode cX0_floats 0 = .ok (.aload_n 0, 1) := by decide +kernel
theorem dX0_floats_1 : decode cX0_floats 1 = .ok (.aload_n 0, 1) := by decide +kernel
theorem dX0_floats_2 : decode cX0_floats 2 = .ok (.getfield 9, 3) := by decide +kernel
theorem dX0_floats_5 : decode cX0_floats 5 = .ok (.aload_n 0, 1) := by decide +kernel
theorem dX0_floats_6 : decode cX0_floats 6 = .ok (.getfield 15, 3) := by decide +kernel
theorem dX0_floats_9 : decode cX0_floats 9 = .ok (.invokevirtual 73, 3) := by decide +kernel
theorem dX0_floats_12 : decode cX0_floats 12 = .ok (.ireturn, 1) := by decide +kernel
set_option maxRecDepth 20000 in
theorem ggX0_floatsBy_X3_burns : GoodIn wsX0_floatsBy wsX3_burns := goodIn_r _ [4] (by decide +kernel) (by decide +kernel)
set_option maxRecDepth 20000 in
theorem gX0_floatsBy_X3_burns_n77 : GoodIn wsX0_floatsBy (wsX3_burns) := ggX0_floatsBy_X3_burns
theorem dX0_floatsBy_0 : decode cX0_floatsBy 0 = .ok (.iload_n 1, 1) := by decide +kernel
theorem dX0_floatsBy_1 : decode cX0_floatsBy 1 = .ok (.iload_n 2, 1) := by decide +kernel
theorem dX0_floatsBy_2 : decode cX0_floatsBy 2 = .ok (.invokestatic 77, 3) := by decide +kernel
theorem dX0_floatsBy_5 : decode cX0_floatsBy 5 = .ok (.aload_n 0, 1) := by decide +kernel
theorem dX0_floatsBy_6 : decode cX0_floatsBy 6 = .ok (.getfield 18, 3) := by decide +kernel
theorem dX0_floatsBy_9 : decode cX0_floatsBy 9 = .ok (.iadd, 1) := by decide +kernel
theorem dX0_floatsBy_10 : decode cX0_floatsBy 10 = .ok (.ireturn, 1) := by decide +kernel
set_option maxRecDepth 20000 in
theorem ggX0_lasts_X3_at : GoodIn wsX0_lasts wsX3_at := goodIn_r _ [5] (by decide +kernel) (by decide +kernel)
set_option maxRecDepth 20000 in
theorem gX0_lasts_X3_at_n80 : GoodIn wsX0_lasts (wsX3_at) := ggX0_lasts_X3_at
theorem dX0_lasts_0 : decode cX0_lasts 0 = .ok (.aload_n 0, 1) := by decide +kernel
theorem dX0_lasts_1 : decode cX0_lasts 1 = .ok (.getfield 34, 3) := by decide +kernel
theorem dX0_lasts_4 : decode cX0_lasts 4 = .ok (.iload_n 1, 1) := by decide +kernel
theorem dX0_lasts_5 : decode cX0_lasts 5 = .ok (.invokestatic 80, 3) := by decide +kernel
theorem dX0_lasts_8 : decode cX0_lasts 8 = .ok (.aload_n 0, 1) := by decide +kernel
theorem dX0_lasts_9 : decode cX0_lasts 9 = .ok (.getfield 38, 3) := by decide +kernel
theorem dX0_lasts_12 : decode cX0_lasts 12 = .ok (.iload_n 1, 1) := by decide +kernel
theorem dX0_lasts_13 : decode cX0_lasts 13 = .ok (.invokestatic 80, 3) := by decide +kernel
theorem dX0_lasts_16 : decode cX0_lasts 16 = .ok (.iadd, 1) := by decide +kernel
theorem dX0_lasts_17 : decode cX0_lasts 17 = .ok (.ireturn, 1) := by decide +kernel
set_option maxRecDepth 20000 in
theorem ggX0_end_X0_place : GoodIn wsX0_end wsX0_place := goodIn_r _ [6, 7, 1, 8, 9, 10, 17, 18, 19, 20, 21, 22, 23, 24, 25, 26, 27, 28, 29, 30] (by decide +kernel) (by decide +kernel)
set_option maxRecDepth 20000 in
theorem gX0_end_X0_place : GoodIn wsX0_end (wsV RX0 84 RX0 yX0_place wsX0_place) := goodIn_app (goodIn_of _ (by decide +kernel)) ggX0_end_X0_place
set_option maxRecDepth 20000 in
theorem ggX0_end_X3_at : GoodIn wsX0_end wsX3_at := goodIn_r _ [10] (by decide +kernel) (by decide +kernel)
set_option maxRecDepth 20000 in
theorem gX0_end_X3_at_n80 : GoodIn wsX0_end (wsX3_at) := ggX0_end_X3_at
set_option maxRecDepth 20000 in
theorem ggX0_end_X0_lasts : GoodIn wsX0_end wsX0_lasts := goodIn_r _ [14, 15, 16, 8, 9, 10, 17, 18, 19, 20, 21, 22, 23, 24, 25, 26, 27, 28, 29, 30] (by decide +kernel) (by decide +kernel)
set_option maxRecDepth 20000 in
theorem gX0_end_X0_lasts : GoodIn wsX0_end (wsV RX0 88 RX0 yX0_lasts wsX0_lasts) := goodIn_app (goodIn_of _ (by decide +kernel)) ggX0_end_X0_lasts
theorem dX0_end_0 : decode cX0_end 0 = .ok (.iconst 0, 1) := by decide +kernel
theorem dX0_end_1 : decode cX0_end 1 = .ok (.istore_n 2, 1) := by decide +kernel
theorem dX0_end_2 : decode cX0_end 2 = .ok (.iconst 0, 1) := by decide +kernel
theorem dX0_end_3 : decode cX0_end 3 = .ok (.istore_n 3, 1) := by decide +kernel
theorem dX0_end_4 : decode cX0_end 4 = .ok (.iload_n 3, 1) := by decide +kernel
theorem dX0_end_5 : decode cX0_end 5 = .ok (.aload_n 0, 1) := by decide +kernel
theorem dX0_end_6 : decode cX0_end 6 = .ok (.iload_n 1, 1) := by decide +kernel
theorem dX0_end_7 : decode cX0_end 7 = .ok (.invokevirtual 84, 3) := by decide +kernel
theorem dX0_end_10 : decode cX0_end 10 = .ok (.if_icmp .gt 24, 3) := by decide +kernel
theorem dX0_end_13 : decode cX0_end 13 = .ok (.iload_n 2, 1) := by decide +kernel
theorem dX0_end_14 : decode cX0_end 14 = .ok (.aload_n 0, 1) := by decide +kernel
theorem dX0_end_15 : decode cX0_end 15 = .ok (.aload_n 0, 1) := by decide +kernel
theorem dX0_end_16 : decode cX0_end 16 = .ok (.getfield 47, 3) := by decide +kernel
theorem dX0_end_19 : decode cX0_end 19 = .ok (.iload_n 3, 1) := by decide +kernel
theorem dX0_end_20 : decode cX0_end 20 = .ok (.invokestatic 80, 3) := by decide +kernel
theorem dX0_end_23 : decode cX0_end 23 = .ok (.invokevirtual 88, 3) := by decide +kernel
theorem dX0_end_26 : decode cX0_end 26 = .ok (.iadd, 1) := by decide +kernel
theorem dX0_end_27 : decode cX0_end 27 = .ok (.istore_n 2, 1) := by decide +kernel
theorem dX0_end_28 : decode cX0_end 28 = .ok (.iinc 3 1, 3) := by decide +kernel
theorem dX0_end_31 : decode cX0_end 31 = .ok (.goto (-27), 3) := by decide +kernel
theorem dX0_end_34 : decode cX0_end 34 = .ok (.iload_n 2, 1) := by decide +kernel
theorem dX0_end_35 : decode cX0_end 35 = .ok (.ireturn, 1) := by decide +kernel
set_option maxRecDepth 20000 in
theorem ggX0_place_X3_at : GoodIn wsX0_place wsX3_at := goodIn_r _ [5] (by decide +kernel) (by decide +kernel)
set_option maxRecDepth 20000 in
theorem gX0_place_X3_at_n80 : GoodIn wsX0_place (wsX3_at) := ggX0_place_X3_at
theorem dX0_place_0 : decode cX0_place 0 = .ok (.iconst 0, 1) := by decide +kernel
theorem dX0_place_1 : decode cX0_place 1 = .ok (.istore_n 2, 1) := by decide +kernel
theorem dX0_place_2 : decode cX0_place 2 = .ok (.iload_n 2, 1) := by decide +kernel
theorem dX0_place_3 : decode cX0_place 3 = .ok (.aload_n 0, 1) := by decide +kernel
theorem dX0_place_4 : decode cX0_place 4 = .ok (.getfield 24, 3) := by decide +kernel
theorem dX0_place_7 : decode cX0_place 7 = .ok (.if_icmp .ge 23, 3) := by decide +kernel
theorem dX0_place_10 : decode cX0_place 10 = .ok (.aload_n 0, 1) := by decide +kernel
theorem dX0_place_11 : decode cX0_place 11 = .ok (.getfield 47, 3) := by decide +kernel
theorem dX0_place_14 : decode cX0_place 14 = .ok (.iload_n 2, 1) := by decide +kernel
theorem dX0_place_15 : decode cX0_place 15 = .ok (.invokestatic 80, 3) := by decide +kernel
theorem dX0_place_18 : decode cX0_place 18 = .ok (.iload_n 1, 1) := by decide +kernel
theorem dX0_place_19 : decode cX0_place 19 = .ok (.if_icmp .ne 5, 3) := by decide +kernel
theorem dX0_place_22 : decode cX0_place 22 = .ok (.iload_n 2, 1) := by decide +kernel
theorem dX0_place_23 : decode cX0_place 23 = .ok (.ireturn, 1) := by decide +kernel
theorem dX0_place_24 : decode cX0_place 24 = .ok (.iinc 2 1, 3) := by decide +kernel
theorem dX0_place_27 : decode cX0_place 27 = .ok (.goto (-25), 3) := by decide +kernel
theorem dX0_place_30 : decode cX0_place 30 = .ok (.aload_n 0, 1) := by decide +kernel
theorem dX0_place_31 : decode cX0_place 31 = .ok (.getfield 24, 3) := by decide +kernel
theorem dX0_place_34 : decode cX0_place 34 = .ok (.ireturn, 1) := by decide +kernel
theorem dX1_init_0 : decode cX1_init 0 = .ok (.aload_n 0, 1) := by decide +kernel
theorem dX1_init_1 : decode cX1_init 1 = .ok (.invokespecial 3, 3) := by decide +kernel
theorem dX1_init_4 : decode cX1_init 4 = .ok (.aload_n 0, 1) := by decide +kernel
theorem dX1_init_5 : decode cX1_init 5 = .ok (.iconst 0, 1) := by decide +kernel
theorem dX1_init_6 : decode cX1_init 6 = .ok (.putfield 11, 3) := by decide +kernel
theorem dX1_init_9 : decode cX1_init 9 = .ok (.aload_n 0, 1) := by decide +kernel
theorem dX1_init_10 : decode cX1_init 10 = .ok (.iconst 0, 1) := by decide +kernel
theorem dX1_init_11 : decode cX1_init 11 = .ok (.putfield 15, 3) := by decide +kernel
theorem dX1_init_14 : decode cX1_init 14 = .ok (.aload_n 0, 1) := by decide +kernel
theorem dX1_init_15 : decode cX1_init 15 = .ok (.iconst 0, 1) := by decide +kernel
theorem dX1_init_16 : decode cX1_init 16 = .ok (.putfield 18, 3) := by decide +kernel
theorem dX1_init_19 : decode cX1_init 19 = .ok (.aload_n 0, 1) := by decide +kernel
theorem dX1_init_20 : decode cX1_init 20 = .ok (.iconst 0, 1) := by decide +kernel
theorem dX1_init_21 : decode cX1_init 21 = .ok (.putfield 21, 3) := by decide +kernel
theorem dX1_init_24 : decode cX1_init 24 = .ok (.aload_n 0, 1) := by decide +kernel
theorem dX1_init_25 : decode cX1_init 25 = .ok (.bipush 6, 2) := by decide +kernel
theorem dX1_init_27 : decode cX1_init 27 = .ok (.newarray .int, 2) := by decide +kernel
theorem dX1_init_29 : decode cX1_init 29 = .ok (.putfield 24, 3) := by decide +kernel
theorem dX1_init_32 : decode cX1_init 32 = .ok (.aload_n 0, 1) := by decide +kernel
theorem dX1_init_33 : decode cX1_init 33 = .ok (.bipush 6, 2) := by decide +kernel
theorem dX1_init_35 : decode cX1_init 35 = .ok (.newarray .int, 2) := by decide +kernel
theorem dX1_init_37 : decode cX1_init 37 = .ok (.putfield 28, 3) := by decide +kernel
theorem dX1_init_40 : decode cX1_init 40 = .ok (.aload_n 0, 1) := by decide +kernel
theorem dX1_init_41 : decode cX1_init 41 = .ok (.bipush 6, 2) := by decide +kernel
theorem dX1_init_43 : decode cX1_init 43 = .ok (.newarray .int, 2) := by decide +kernel
theorem dX1_init_45 : decode cX1_init 45 = .ok (.putfield 31, 3) := by decide +kernel
theorem dX1_init_48 : decode cX1_init 48 = .ok (.aload_n 0, 1) := by decide +kernel
theorem dX1_init_49 : decode cX1_init 49 = .ok (.bipush 6, 2) := by decide +kernel
theorem dX1_init_51 : decode cX1_init 51 = .ok (.newarray .int, 2) := by decide +kernel
theorem dX1_init_53 : decode cX1_init 53 = .ok (.putfield 34, 3) := by decide +kernel
theorem dX1_init_56 : decode cX1_init 56 = .ok (.return_, 1) := by decide +kernel
set_option maxRecDepth 20000 in
theorem ggX1_read_X1_startNumber : GoodIn wsX1_read wsX1_startNumber := goodIn_r _ [7, 2, 8, 9, 41, 42, 43, 44, 45, 46, 47, 48] (by decide +kernel) (by decide +kernel)
set_option maxRecDepth 20000 in
theorem gX1_read_X1_startNumber : GoodIn wsX1_read (wsV RX1 37 RX1 yX1_startNumber wsX1_startNumber) := goodIn_app (goodIn_of _ (by decide +kernel)) ggX1_read_X1_startNumber
set_option maxRecDepth 20000 in
theorem ggX1_read_X3_at : GoodIn wsX1_read wsX3_at := goodIn_r _ [12] (by decide +kernel) (by decide +kernel)
set_option maxRecDepth 20000 in
theorem gX1_read_X3_at_n41 : GoodIn wsX1_read (wsX3_at) := ggX1_read_X3_at
set_option maxRecDepth 20000 in
theorem ggX1_read_X1_takes : GoodIn wsX1_read wsX1_takes := goodIn_r _ [16, 17, 18, 19, 11, 20, 21, 22, 23, 6, 24, 2, 8, 9, 25, 26, 27, 28, 1, 29, 30, 3, 4, 5, 7, 31, 32, 33, 34, 35, 36, 37, 38, 39, 40, 41, 42, 43, 44, 45, 46, 47, 48] (by decide +kernel) (by decide +kernel)
set_option maxRecDepth 20000 in
theorem gX1_read_X1_takes : GoodIn wsX1_read (wsV RX1 45 RX1 yX1_takes wsX1_takes) := goodIn_app (goodIn_of _ (by decide +kernel)) ggX1_read_X1_takes
theorem dX1_read_0 : decode cX1_read 0 = .ok (.aload_n 0, 1) := by decide +kernel
theorem dX1_read_1 : decode cX1_read 1 = .ok (.iconst 0, 1) := by decide +kernel
theorem dX1_read_2 : decode cX1_read 2 = .ok (.putfield 21, 3) := by decide +kernel
theorem dX1_read_5 : decode cX1_read 5 = .ok (.aload_n 0, 1) := by decide +kernel
theorem dX1_read_6 : decode cX1_read 6 = .ok (.iconst 0, 1) := by decide +kernel
theorem dX1_read_7 : decode cX1_read 7 = .ok (.invokevirtual 37, 3) := by decide +kernel
theorem dX1_read_10 : decode cX1_read 10 = .ok (.iconst 0, 1) := by decide +kernel
theorem dX1_read_11 : decode cX1_read 11 = .ok (.istore_n 3, 1) := by decide +kernel
theorem dX1_read_12 : decode cX1_read 12 = .ok (.iload_n 3, 1) := by decide +kernel
theorem dX1_read_13 : decode cX1_read 13 = .ok (.iload_n 2, 1) := by decide +kernel
theorem dX1_read_14 : decode cX1_read 14 = .ok (.if_icmp .ge 23, 3) := by decide +kernel
theorem dX1_read_17 : decode cX1_read 17 = .ok (.aload_n 0, 1) := by decide +kernel
theorem dX1_read_18 : decode cX1_read 18 = .ok (.aload_n 1, 1) := by decide +kernel
theorem dX1_read_19 : decode cX1_read 19 = .ok (.iload_n 3, 1) := by decide +kernel
theorem dX1_read_20 : decode cX1_read 20 = .ok (.invokestatic 41, 3) := by decide +kernel
theorem dX1_read_23 : decode cX1_read 23 = .ok (.invokevirtual 45, 3) := by decide +kernel
theorem dX1_read_26 : decode cX1_read 26 = .ok (.ifCond .ne 5, 3) := by decide +kernel
theorem dX1_read_29 : decode cX1_read 29 = .ok (.iload_n 3, 1) := by decide +kernel
theorem dX1_read_30 : decode cX1_read 30 = .ok (.ireturn, 1) := by decide +kernel
theorem dX1_read_31 : decode cX1_read 31 = .ok (.iinc 3 1, 3) := by decide +kernel
theorem dX1_read_34 : decode cX1_read 34 = .ok (.goto (-22), 3) := by decide +kernel
theorem dX1_read_37 : decode cX1_read 37 = .ok (.iload_n 2, 1) := by decide +kernel
theorem dX1_read_38 : decode cX1_read 38 = .ok (.ifCond .eq 11, 3) := by decide +kernel
theorem dX1_read_41 : decode cX1_read 41 = .ok (.aload_n 0, 1) := by decide +kernel
theorem dX1_read_42 : decode cX1_read 42 = .ok (.getfield 11, 3) := by decide +kernel
theorem dX1_read_45 : decode cX1_read 45 = .ok (.iconst 3, 1) := by decide +kernel
theorem dX1_read_46 : decode cX1_read 46 = .ok (.if_icmp .ne 8, 3) := by decide +kernel
theorem dX1_read_49 : decode cX1_read 49 = .ok (.bipush (-6), 2) := by decide +kernel
theorem dX1_read_51 : decode cX1_read 51 = .ok (.goto 4, 3) := by decide +kernel
theorem dX1_read_54 : decode cX1_read 54 = .ok (.iload_n 2, 1) := by decide +kernel
theorem dX1_read_55 : decode cX1_read 55 = .ok (.ireturn, 1) := by decide +kernel
set_option maxRecDepth 20000 in
theorem ggX1_takes_X3_within : GoodIn wsX1_takes wsX3_within := goodIn_r _ [5] (by decide +kernel) (by decide +kernel)
set_option maxRecDepth 20000 in
theorem gX1_takes_X3_within_n49 : GoodIn wsX1_takes (wsX3_within) := ggX1_takes_X3_within
set_option maxRecDepth 20000 in
theorem ggX1_takes_X1_takesDigit : GoodIn wsX1_takes wsX1_takesDigit := goodIn_r _ [10, 11, 12, 13, 35, 36, 37, 38, 39, 40, 41, 42] (by decide +kernel) (by decide +kernel)
set_option maxRecDepth 20000 in
theorem gX1_takes_X1_takesDigit : GoodIn wsX1_takes (wsV RX1 53 RX1 yX1_takesDigit wsX1_takesDigit) := goodIn_app (goodIn_of _ (by decide +kernel)) ggX1_takes_X1_takesDigit
set_option maxRecDepth 20000 in
theorem ggX1_takes_X1_endsSpeech : GoodIn wsX1_takes wsX1_endsSpeech := goodIn_r _ [17, 11, 12, 18, 13, 19, 4, 20, 21, 22, 23, 9, 24, 35, 36, 37, 38, 39, 40, 41, 42] (by decide +kernel) (by decide +kernel)
set_option maxRecDepth 20000 in
theorem gX1_takes_X1_endsSpeech : GoodIn wsX1_takes (wsV RX1 56 RX1 yX1_endsSpeech wsX1_endsSpeech) := goodIn_app (goodIn_of _ (by decide +kernel)) ggX1_takes_X1_endsSpeech
set_option maxRecDepth 20000 in
theorem ggX1_takes_X1_endsSuit : GoodIn wsX1_takes wsX1_endsSuit := goodIn_r _ [28, 11, 12, 29, 18, 13, 30, 19, 4, 20, 35, 36, 37, 38, 39, 40, 41, 42] (by decide +kernel) (by decide +kernel)
set_option maxRecDepth 20000 in
theorem gX1_takes_X1_endsSuit : GoodIn wsX1_takes (wsV RX1 60 RX1 yX1_endsSuit wsX1_endsSuit) := goodIn_app (goodIn_of _ (by decide +kernel)) ggX1_takes_X1_endsSuit
set_option maxRecDepth 20000 in
theorem ggX1_takes_X1_startsSuit : GoodIn wsX1_takes wsX1_startsSuit := goodIn_r _ [34, 11, 18, 21, 22, 23, 9, 24, 12, 13, 35, 36, 37, 38, 39, 40, 41, 42] (by decide +kernel) (by decide +kernel)
set_option maxRecDepth 20000 in
theorem gX1_takes_X1_startsSuit : GoodIn wsX1_takes (wsV RX1 63 RX1 yX1_startsSuit wsX1_startsSuit) := goodIn_app (goodIn_of _ (by decide +kernel)) ggX1_takes_X1_startsSuit
theorem dX1_takes_0 : decode cX1_takes 0 = .ok (.iload_n 1, 1) := by decide +kernel
theorem dX1_takes_1 : decode cX1_takes 1 = .ok (.bipush 48, 2) := by decide +kernel
theorem dX1_takes_3 : decode cX1_takes 3 = .ok (.bipush 57, 2) := by decide +kernel
theorem dX1_takes_5 : decode cX1_takes 5 = .ok (.invokestatic 49, 3) := by decide +kernel
theorem dX1_takes_8 : decode cX1_takes 8 = .ok (.ifCond .eq 12, 3) := by decide +kernel
theorem dX1_takes_11 : decode cX1_takes 11 = .ok (.aload_n 0, 1) := by decide +kernel
theorem dX1_takes_12 : decode cX1_takes 12 = .ok (.iload_n 1, 1) := by decide +kernel
theorem dX1_takes_13 : decode cX1_takes 13 = .ok (.bipush 48, 2) := by decide +kernel
theorem dX1_takes_15 : decode cX1_takes 15 = .ok (.isub, 1) := by decide +kernel
theorem dX1_takes_16 : decode cX1_takes 16 = .ok (.invokevirtual 53, 3) := by decide +kernel
theorem dX1_takes_19 : decode cX1_takes 19 = .ok (.ireturn, 1) := by decide +kernel
theorem dX1_takes_20 : decode cX1_takes 20 = .ok (.iload_n 1, 1) := by decide +kernel
theorem dX1_takes_21 : decode cX1_takes 21 = .ok (.lookupswitch 88 #[(43, 51), (59, 83), (61, 61), (100, 77), (112, 71)], 51) := by decide +kernel
theorem dX1_takes_72 : decode cX1_takes 72 = .ok (.aload_n 0, 1) := by decide +kernel
theorem dX1_takes_73 : decode cX1_takes 73 = .ok (.iconst 0, 1) := by decide +kernel
theorem dX1_takes_74 : decode cX1_takes 74 = .ok (.aload_n 0, 1) := by decide +kernel
theorem dX1_takes_75 : decode cX1_takes 75 = .ok (.getfield 24, 3) := by decide +kernel
theorem dX1_takes_78 : decode cX1_takes 78 = .ok (.invokevirtual 56, 3) := by decide +kernel
theorem dX1_takes_81 : decode cX1_takes 81 = .ok (.ireturn, 1) := by decide +kernel
theorem dX1_takes_82 : decode cX1_takes 82 = .ok (.aload_n 0, 1) := by decide +kernel
theorem dX1_takes_83 : decode cX1_takes 83 = .ok (.iconst 1, 1) := by decide +kernel
theorem dX1_takes_84 : decode cX1_takes 84 = .ok (.aload_n 0, 1) := by decide +kernel
theorem dX1_takes_85 : decode cX1_takes 85 = .ok (.getfield 28, 3) := by decide +kernel
theorem dX1_takes_88 : decode cX1_takes 88 = .ok (.invokevirtual 56, 3) := by decide +kernel
theorem dX1_takes_91 : decode cX1_takes 91 = .ok (.ireturn, 1) := by decide +kernel
theorem dX1_takes_92 : decode cX1_takes 92 = .ok (.aload_n 0, 1) := by decide +kernel
theorem dX1_takes_93 : decode cX1_takes 93 = .ok (.iconst 0, 1) := by decide +kernel
theorem dX1_takes_94 : decode cX1_takes 94 = .ok (.invokevirtual 60, 3) := by decide +kernel
theorem dX1_takes_97 : decode cX1_takes 97 = .ok (.ireturn, 1) := by decide +kernel
theorem dX1_takes_98 : decode cX1_takes 98 = .ok (.aload_n 0, 1) := by decide +kernel
theorem dX1_takes_99 : decode cX1_takes 99 = .ok (.iconst 1, 1) := by decide +kernel
theorem dX1_takes_100 : decode cX1_takes 100 = .ok (.invokevirtual 60, 3) := by decide +kernel
theorem dX1_takes_103 : decode cX1_takes 103 = .ok (.ireturn, 1) := by decide +kernel
theorem dX1_takes_104 : decode cX1_takes 104 = .ok (.aload_n 0, 1) := by decide +kernel
theorem dX1_takes_105 : decode cX1_takes 105 = .ok (.invokevirtual 63, 3) := by decide +kernel
theorem dX1_takes_108 : decode cX1_takes 108 = .ok (.ireturn, 1) := by decide +kernel
theorem dX1_takes_109 : decode cX1_takes 109 = .ok (.iconst 0, 1) := by decide +kernel
theorem dX1_takes_110 : decode cX1_takes 110 = .ok (.ireturn, 1) := by decide +kernel
theorem dX1_takesDigit_0 : decode cX1_takesDigit 0 = .ok (.aload_n 0, 1) := by decide +kernel
theorem dX1_takesDigit_1 : decode cX1_takesDigit 1 = .ok (.getfield 11, 3) := by decide +kernel
theorem dX1_takesDigit_4 : decode cX1_takesDigit 4 = .ok (.iconst 3, 1) := by decide +kernel
theorem dX1_takesDigit_5 : decode cX1_takesDigit 5 = .ok (.if_icmp .eq 11, 3) := by decide +kernel
theorem dX1_takesDigit_8 : decode cX1_takesDigit 8 = .ok (.aload_n 0, 1) := by decide +kernel
theorem dX1_takesDigit_9 : decode cX1_takesDigit 9 = .ok (.getfield 15, 3) := by decide +kernel
theorem dX1_takesDigit_12 : decode cX1_takesDigit 12 = .ok (.iconst 3, 1) := by decide +kernel
theorem dX1_takesDigit_13 : decode cX1_takesDigit 13 = .ok (.if_icmp .ne 5, 3) := by decide +kernel
theorem dX1_takesDigit_16 : decode cX1_takesDigit 16 = .ok (.iconst 0, 1) := by decide +kernel
theorem dX1_takesDigit_17 : decode cX1_takesDigit 17 = .ok (.ireturn, 1) := by decide +kernel
theorem dX1_takesDigit_18 : decode cX1_takesDigit 18 = .ok (.aload_n 0, 1) := by decide +kernel
theorem dX1_takesDigit_19 : decode cX1_takesDigit 19 = .ok (.getfield 15, 3) := by decide +kernel
theorem dX1_takesDigit_22 : decode cX1_takesDigit 22 = .ok (.ifCond .ne 19, 3) := by decide +kernel
theorem dX1_takesDigit_25 : decode cX1_takesDigit 25 = .ok (.iload_n 1, 1) := by decide +kernel
theorem dX1_takesDigit_26 : decode cX1_takesDigit 26 = .ok (.ifCond .ne 15, 3) := by decide +kernel
theorem dX1_takesDigit_29 : decode cX1_takesDigit 29 = .ok (.aload_n 0, 1) := by decide +kernel
theorem dX1_takesDigit_30 : decode cX1_takesDigit 30 = .ok (.getfield 11, 3) := by decide +kernel
theorem dX1_takesDigit_33 : decode cX1_takesDigit 33 = .ok (.iconst 2, 1) := by decide +kernel
theorem dX1_takesDigit_34 : decode cX1_takesDigit 34 = .ok (.if_icmp .eq 7, 3) := by decide +kernel
theorem dX1_takesDigit_37 : decode cX1_takesDigit 37 = .ok (.iconst 1, 1) := by decide +kernel
theorem dX1_takesDigit_38 : decode cX1_takesDigit 38 = .ok (.goto 4, 3) := by decide +kernel
theorem dX1_takesDigit_41 : decode cX1_takesDigit 41 = .ok (.iconst 0, 1) := by decide +kernel
theorem dX1_takesDigit_42 : decode cX1_takesDigit 42 = .ok (.istore_n 2, 1) := by decide +kernel
theorem dX1_takesDigit_43 : decode cX1_takesDigit 43 = .ok (.iload_n 2, 1) := by decide +kernel
theorem dX1_takesDigit_44 : decode cX1_takesDigit 44 = .ok (.ifCond .ne 17, 3) := by decide +kernel
theorem dX1_takesDigit_47 : decode cX1_takesDigit 47 = .ok (.aload_n 0, 1) := by decide +kernel
theorem dX1_takesDigit_48 : decode cX1_takesDigit 48 = .ok (.getfield 15, 3) := by decide +kernel
theorem dX1_takesDigit_51 : decode cX1_takesDigit 51 = .ok (.ifCond .le 12, 3) := by decide +kernel
theorem dX1_takesDigit_54 : decode cX1_takesDigit 54 = .ok (.aload_n 0, 1) := by decide +kernel
theorem dX1_takesDigit_55 : decode cX1_takesDigit 55 = .ok (.getfield 18, 3) := by decide +kernel
theorem dX1_takesDigit_58 : decode cX1_takesDigit 58 = .ok (.ifCond .ne 5, 3) := by decide +kernel
theorem dX1_takesDigit_61 : decode cX1_takesDigit 61 = .ok (.iconst 0, 1) := by decide +kernel
theorem dX1_takesDigit_62 : decode cX1_takesDigit 62 = .ok (.ireturn, 1) := by decide +kernel
theorem dX1_takesDigit_63 : decode cX1_takesDigit 63 = .ok (.aload_n 0, 1) := by decide +kernel
theorem dX1_takesDigit_64 : decode cX1_takesDigit 64 = .ok (.bipush 10, 2) := by decide +kernel
theorem dX1_takesDigit_66 : decode cX1_takesDigit 66 = .ok (.aload_n 0, 1) := by decide +kernel
theorem dX1_takesDigit_67 : decode cX1_takesDigit 67 = .ok (.getfield 18, 3) := by decide +kernel
theorem dX1_takesDigit_70 : decode cX1_takesDigit 70 = .ok (.imul, 1) := by decide +kernel
theorem dX1_takesDigit_71 : decode cX1_takesDigit 71 = .ok (.iload_n 1, 1) := by decide +kernel
theorem dX1_takesDigit_72 : decode cX1_takesDigit 72 = .ok (.iadd, 1) := by decide +kernel
theorem dX1_takesDigit_73 : decode cX1_takesDigit 73 = .ok (.putfield 18, 3) := by decide +kernel
theorem dX1_takesDigit_76 : decode cX1_takesDigit 76 = .ok (.aload_n 0, 1) := by decide +kernel
theorem dX1_takesDigit_77 : decode cX1_takesDigit 77 = .ok (.dup, 1) := by decide +kernel
theorem dX1_takesDigit_78 : decode cX1_takesDigit 78 = .ok (.getfield 15, 3) := by decide +kernel
theorem dX1_takesDigit_81 : decode cX1_takesDigit 81 = .ok (.iconst 1, 1) := by decide +kernel
theorem dX1_takesDigit_82 : decode cX1_takesDigit 82 = .ok (.iadd, 1) := by decide +kernel
theorem dX1_takesDigit_83 : decode cX1_takesDigit 83 = .ok (.putfield 15, 3) := by decide +kernel
theorem dX1_takesDigit_86 : decode cX1_takesDigit 86 = .ok (.iconst 1, 1) := by decide +kernel
theorem dX1_takesDigit_87 : decode cX1_takesDigit 87 = .ok (.ireturn, 1) := by decide +kernel
set_option maxRecDepth 20000 in
theorem ggX1_endsSpeech_X3_put : GoodIn wsX1_endsSpeech wsX3_put := goodIn_r _ [7] (by decide +kernel) (by decide +kernel)
set_option maxRecDepth 20000 in
theorem gX1_endsSpeech_X3_put_n67 : GoodIn wsX1_endsSpeech (wsX3_put) := ggX1_endsSpeech_X3_put
set_option maxRecDepth 20000 in
theorem ggX1_endsSpeech_X1_startNumber : GoodIn wsX1_endsSpeech wsX1_startNumber := goodIn_r _ [12, 1, 2, 4, 13, 14, 15, 16, 17, 18, 19, 20] (by decide +kernel) (by decide +kernel)
set_option maxRecDepth 20000 in
theorem gX1_endsSpeech_X1_startNumber : GoodIn wsX1_endsSpeech (wsV RX1 37 RX1 yX1_startNumber wsX1_startNumber) := goodIn_app (goodIn_of _ (by decide +kernel)) ggX1_endsSpeech_X1_startNumber
theorem dX1_endsSpeech_0 : decode cX1_endsSpeech 0 = .ok (.aload_n 0, 1) := by decide +kernel
theorem dX1_endsSpeech_1 : decode cX1_endsSpeech 1 = .ok (.getfield 11, 3) := by decide +kernel
theorem dX1_endsSpeech_4 : decode cX1_endsSpeech 4 = .ok (.iload_n 1, 1) := by decide +kernel
theorem dX1_endsSpeech_5 : decode cX1_endsSpeech 5 = .ok (.if_icmp .ne 10, 3) := by decide +kernel
theorem dX1_endsSpeech_8 : decode cX1_endsSpeech 8 = .ok (.aload_n 0, 1) := by decide +kernel
theorem dX1_endsSpeech_9 : decode cX1_endsSpeech 9 = .ok (.getfield 15, 3) := by decide +kernel
theorem dX1_endsSpeech_12 : decode cX1_endsSpeech 12 = .ok (.ifCond .ne 5, 3) := by decide +kernel
theorem dX1_endsSpeech_15 : decode cX1_endsSpeech 15 = .ok (.iconst 0, 1) := by decide +kernel
theorem dX1_endsSpeech_16 : decode cX1_endsSpeech 16 = .ok (.ireturn, 1) := by decide +kernel
theorem dX1_endsSpeech_17 : decode cX1_endsSpeech 17 = .ok (.aload_n 2, 1) := by decide +kernel
theorem dX1_endsSpeech_18 : decode cX1_endsSpeech 18 = .ok (.aload_n 0, 1) := by decide +kernel
theorem dX1_endsSpeech_19 : decode cX1_endsSpeech 19 = .ok (.getfield 21, 3) := by decide +kernel
theorem dX1_endsSpeech_22 : decode cX1_endsSpeech 22 = .ok (.aload_n 0, 1) := by decide +kernel
theorem dX1_endsSpeech_23 : decode cX1_endsSpeech 23 = .ok (.getfield 18, 3) := by decide +kernel
theorem dX1_endsSpeech_26 : decode cX1_endsSpeech 26 = .ok (.invokestatic 67, 3) := by decide +kernel
theorem dX1_endsSpeech_29 : decode cX1_endsSpeech 29 = .ok (.aload_n 0, 1) := by decide +kernel
theorem dX1_endsSpeech_30 : decode cX1_endsSpeech 30 = .ok (.iload_n 1, 1) := by decide +kernel
theorem dX1_endsSpeech_31 : decode cX1_endsSpeech 31 = .ok (.iconst 1, 1) := by decide +kernel
theorem dX1_endsSpeech_32 : decode cX1_endsSpeech 32 = .ok (.iadd, 1) := by decide +kernel
theorem dX1_endsSpeech_33 : decode cX1_endsSpeech 33 = .ok (.invokevirtual 37, 3) := by decide +kernel
theorem dX1_endsSpeech_36 : decode cX1_endsSpeech 36 = .ok (.iconst 1, 1) := by decide +kernel
theorem dX1_endsSpeech_37 : decode cX1_endsSpeech 37 = .ok (.ireturn, 1) := by decide +kernel
set_option maxRecDepth 20000 in
theorem ggX1_endsSuit_X3_put : GoodIn wsX1_endsSuit wsX3_put := goodIn_r _ [9] (by decide +kernel) (by decide +kernel)
set_option maxRecDepth 20000 in
theorem gX1_endsSuit_X3_put_n67 : GoodIn wsX1_endsSuit (wsX3_put) := ggX1_endsSuit_X3_put
theorem dX1_endsSuit_0 : decode cX1_endsSuit 0 = .ok (.aload_n 0, 1) := by decide +kernel
theorem dX1_endsSuit_1 : decode cX1_endsSuit 1 = .ok (.getfield 11, 3) := by decide +kernel
theorem dX1_endsSuit_4 : decode cX1_endsSuit 4 = .ok (.iconst 2, 1) := by decide +kernel
theorem dX1_endsSuit_5 : decode cX1_endsSuit 5 = .ok (.if_icmp .ne 10, 3) := by decide +kernel
theorem dX1_endsSuit_8 : decode cX1_endsSuit 8 = .ok (.aload_n 0, 1) := by decide +kernel
theorem dX1_endsSuit_9 : decode cX1_endsSuit 9 = .ok (.getfield 15, 3) := by decide +kernel
theorem dX1_endsSuit_12 : decode cX1_endsSuit 12 = .ok (.ifCond .ne 5, 3) := by decide +kernel
theorem dX1_endsSuit_15 : decode cX1_endsSuit 15 = .ok (.iconst 0, 1) := by decide +kernel
theorem dX1_endsSuit_16 : decode cX1_endsSuit 16 = .ok (.ireturn, 1) := by decide +kernel
theorem dX1_endsSuit_17 : decode cX1_endsSuit 17 = .ok (.aload_n 0, 1) := by decide +kernel
theorem dX1_endsSuit_18 : decode cX1_endsSuit 18 = .ok (.getfield 31, 3) := by decide +kernel
theorem dX1_endsSuit_21 : decode cX1_endsSuit 21 = .ok (.aload_n 0, 1) := by decide +kernel
theorem dX1_endsSuit_22 : decode cX1_endsSuit 22 = .ok (.getfield 21, 3) := by decide +kernel
theorem dX1_endsSuit_25 : decode cX1_endsSuit 25 = .ok (.aload_n 0, 1) := by decide +kernel
theorem dX1_endsSuit_26 : decode cX1_endsSuit 26 = .ok (.getfield 18, 3) := by decide +kernel
theorem dX1_endsSuit_29 : decode cX1_endsSuit 29 = .ok (.invokestatic 67, 3) := by decide +kernel
theorem dX1_endsSuit_32 : decode cX1_endsSuit 32 = .ok (.aload_n 0, 1) := by decide +kernel
theorem dX1_endsSuit_33 : decode cX1_endsSuit 33 = .ok (.getfield 34, 3) := by decide +kernel
theorem dX1_endsSuit_36 : decode cX1_endsSuit 36 = .ok (.aload_n 0, 1) := by decide +kernel
theorem dX1_endsSuit_37 : decode cX1_endsSuit 37 = .ok (.getfield 21, 3) := by decide +kernel
theorem dX1_endsSuit_40 : decode cX1_endsSuit 40 = .ok (.iload_n 1, 1) := by decide +kernel
theorem dX1_endsSuit_41 : decode cX1_endsSuit 41 = .ok (.invokestatic 67, 3) := by decide +kernel
theorem dX1_endsSuit_44 : decode cX1_endsSuit 44 = .ok (.aload_n 0, 1) := by decide +kernel
theorem dX1_endsSuit_45 : decode cX1_endsSuit 45 = .ok (.dup, 1) := by decide +kernel
theorem dX1_endsSuit_46 : decode cX1_endsSuit 46 = .ok (.getfield 21, 3) := by decide +kernel
theorem dX1_endsSuit_49 : decode cX1_endsSuit 49 = .ok (.iconst 1, 1) := by decide +kernel
theorem dX1_endsSuit_50 : decode cX1_endsSuit 50 = .ok (.iadd, 1) := by decide +kernel
theorem dX1_endsSuit_51 : decode cX1_endsSuit 51 = .ok (.putfield 21, 3) := by decide +kernel
theorem dX1_endsSuit_54 : decode cX1_endsSuit 54 = .ok (.aload_n 0, 1) := by decide +kernel
theorem dX1_endsSuit_55 : decode cX1_endsSuit 55 = .ok (.iconst 3, 1) := by decide +kernel
theorem dX1_endsSuit_56 : decode cX1_endsSuit 56 = .ok (.putfield 11, 3) := by decide +kernel
theorem dX1_endsSuit_59 : decode cX1_endsSuit 59 = .ok (.iconst 1, 1) := by decide +kernel
theorem dX1_endsSuit_60 : decode cX1_endsSuit 60 = .ok (.ireturn, 1) := by decide +kernel
set_option maxRecDepth 20000 in
theorem ggX1_startsSuit_X1_startNumber : GoodIn wsX1_startsSuit wsX1_startNumber := goodIn_r _ [7, 1, 8, 9, 10, 11, 12, 13, 14, 15, 16, 17] (by decide +kernel) (by decide +kernel)
set_option maxRecDepth 20000 in
theorem gX1_startsSuit_X1_startNumber : GoodIn wsX1_startsSuit (wsV RX1 37 RX1 yX1_startNumber wsX1_startNumber) := goodIn_app (goodIn_of _ (by decide +kernel)) ggX1_startsSuit_X1_startNumber
theorem dX1_startsSuit_0 : decode cX1_startsSuit 0 = .ok (.aload_n 0, 1) := by decide +kernel
theorem dX1_startsSuit_1 : decode cX1_startsSuit 1 = .ok (.getfield 11, 3) := by decide +kernel
theorem dX1_startsSuit_4 : decode cX1_startsSuit 4 = .ok (.iconst 3, 1) := by decide +kernel
theorem dX1_startsSuit_5 : decode cX1_startsSuit 5 = .ok (.if_icmp .ne 12, 3) := by decide +kernel
theorem dX1_startsSuit_8 : decode cX1_startsSuit 8 = .ok (.aload_n 0, 1) := by decide +kernel
theorem dX1_startsSuit_9 : decode cX1_startsSuit 9 = .ok (.getfield 21, 3) := by decide +kernel
theorem dX1_startsSuit_12 : decode cX1_startsSuit 12 = .ok (.bipush 6, 2) := by decide +kernel
theorem dX1_startsSuit_14 : decode cX1_startsSuit 14 = .ok (.if_icmp .lt 5, 3) := by decide +kernel
theorem dX1_startsSuit_17 : decode cX1_startsSuit 17 = .ok (.iconst 0, 1) := by decide +kernel
theorem dX1_startsSuit_18 : decode cX1_startsSuit 18 = .ok (.ireturn, 1) := by decide +kernel
theorem dX1_startsSuit_19 : decode cX1_startsSuit 19 = .ok (.aload_n 0, 1) := by decide +kernel
theorem dX1_startsSuit_20 : decode cX1_startsSuit 20 = .ok (.iconst 0, 1) := by decide +kernel
theorem dX1_startsSuit_21 : decode cX1_startsSuit 21 = .ok (.invokevirtual 37, 3) := by decide +kernel
theorem dX1_startsSuit_24 : decode cX1_startsSuit 24 = .ok (.iconst 1, 1) := by decide +kernel
theorem dX1_startsSuit_25 : decode cX1_startsSuit 25 = .ok (.ireturn, 1) := by decide +kernel
theorem dX1_startNumber_0 : decode cX1_startNumber 0 = .ok (.aload_n 0, 1) := by decide +kernel
theorem dX1_startNumber_1 : decode cX1_startNumber 1 = .ok (.iload_n 1, 1) := by decide +kernel
theorem dX1_startNumber_2 : decode cX1_startNumber 2 = .ok (.putfield 11, 3) := by decide +kernel
theorem dX1_startNumber_5 : decode cX1_startNumber 5 = .ok (.aload_n 0, 1) := by decide +kernel
theorem dX1_startNumber_6 : decode cX1_startNumber 6 = .ok (.iconst 0, 1) := by decide +kernel
theorem dX1_startNumber_7 : decode cX1_startNumber 7 = .ok (.putfield 15, 3) := by decide +kernel
theorem dX1_startNumber_10 : decode cX1_startNumber 10 = .ok (.aload_n 0, 1) := by decide +kernel
theorem dX1_startNumber_11 : decode cX1_startNumber 11 = .ok (.iconst 0, 1) := by decide +kernel
theorem dX1_startNumber_12 : decode cX1_startNumber 12 = .ok (.putfield 18, 3) := by decide +kernel
theorem dX1_startNumber_15 : decode cX1_startNumber 15 = .ok (.return_, 1) := by decide +kernel
theorem dX2_init_0 : decode cX2_init 0 = .ok (.aload_n 0, 1) := by decide +kernel
theorem dX2_init_1 : decode cX2_init 1 = .ok (.invokespecial 3, 3) := by decide +kernel
theorem dX2_init_4 : decode cX2_init 4 = .ok (.aload_n 0, 1) := by decide +kernel
theorem dX2_init_5 : decode cX2_init 5 = .ok (.iconst 0, 1) := by decide +kernel
theorem dX2_init_6 : decode cX2_init 6 = .ok (.putfield 9, 3) := by decide +kernel
theorem dX2_init_9 : decode cX2_init 9 = .ok (.aload_n 0, 1) := by decide +kernel
theorem dX2_init_10 : decode cX2_init 10 = .ok (.bipush (-6), 2) := by decide +kernel
theorem dX2_init_12 : decode cX2_init 12 = .ok (.putfield 15, 3) := by decide +kernel
theorem dX2_init_15 : decode cX2_init 15 = .ok (.aload_n 0, 1) := by decide +kernel
theorem dX2_init_16 : decode cX2_init 16 = .ok (.iconst 0, 1) := by decide +kernel
theorem dX2_init_17 : decode cX2_init 17 = .ok (.putfield 18, 3) := by decide +kernel
theorem dX2_init_20 : decode cX2_init 20 = .ok (.aload_n 0, 1) := by decide +kernel
theorem dX2_init_21 : decode cX2_init 21 = .ok (.iconst 0, 1) := by decide +kernel
theorem dX2_init_22 : decode cX2_init 22 = .ok (.putfield 21, 3) := by decide +kernel
theorem dX2_init_25 : decode cX2_init 25 = .ok (.aload_n 0, 1) := by decide +kernel
theorem dX2_init_26 : decode cX2_init 26 = .ok (.iconst 0, 1) := by decide +kernel
theorem dX2_init_27 : decode cX2_init 27 = .ok (.putfield 24, 3) := by decide +kernel
theorem dX2_init_30 : decode cX2_init 30 = .ok (.aload_n 0, 1) := by decide +kernel
theorem dX2_init_31 : decode cX2_init 31 = .ok (.iconst 0, 1) := by decide +kernel
theorem dX2_init_32 : decode cX2_init 32 = .ok (.putfield 27, 3) := by decide +kernel
theorem dX2_init_35 : decode cX2_init 35 = .ok (.return_, 1) := by decide +kernel
set_option maxRecDepth 20000 in
theorem ggX2_plead_X3_at : GoodIn wsX2_plead wsX3_at := goodIn_r _ [10] (by decide +kernel) (by decide +kernel)
set_option maxRecDepth 20000 in
theorem gX2_plead_X3_at_n35 : GoodIn wsX2_plead (wsX3_at) := ggX2_plead_X3_at
set_option maxRecDepth 20000 in
theorem ggX2_plead_X0_lasts : GoodIn wsX2_plead wsX0_lasts := goodIn_r _ [15, 16, 17, 8, 9, 10, 36, 37, 38, 39, 40, 41, 42, 43, 44, 45, 46, 47, 48, 49] (by decide +kernel) (by decide +kernel)
set_option maxRecDepth 20000 in
theorem gX2_plead_X0_lasts : GoodIn wsX2_plead (wsV RX2 39 RX0 yX0_lasts wsX0_lasts) := goodIn_app (goodIn_of _ (by decide +kernel)) ggX2_plead_X0_lasts
set_option maxRecDepth 20000 in
theorem ggX2_plead_X2_sink : GoodIn wsX2_plead wsX2_sink := goodIn_r _ [22, 2, 23, 3, 24, 5, 8, 9, 10, 30, 31, 32, 33, 34, 35, 36, 37, 38, 39, 40, 41, 42, 43, 44, 45, 46, 47, 48, 49] (by decide +kernel) (by decide +kernel)
set_option maxRecDepth 20000 in
theorem gX2_plead_X2_sink : GoodIn wsX2_plead (wsV RX2 43 RX2 yX2_sink wsX2_sink) := goodIn_app (goodIn_of _ (by decide +kernel)) ggX2_plead_X2_sink
set_option maxRecDepth 20000 in
theorem ggX2_plead_X2_decide : GoodIn wsX2_plead wsX2_decide := goodIn_r _ [28, 1, 6, 24, 29, 3, 4, 8, 9, 10, 30, 31, 32, 33, 34, 35, 36, 37, 38, 39, 40, 41, 42, 43, 44, 45, 46, 47, 48, 49] (by decide +kernel) (by decide +kernel)
set_option maxRecDepth 20000 in
theorem gX2_plead_X2_decide : GoodIn wsX2_plead (wsV RX2 47 RX2 yX2_decide wsX2_decide) := goodIn_app (goodIn_of _ (by decide +kernel)) ggX2_plead_X2_decide
theorem dX2_plead_0 : decode cX2_plead 0 = .ok (.aload_n 0, 1) := by decide +kernel
theorem dX2_plead_1 : decode cX2_plead 1 = .ok (.iconst 0, 1) := by decide +kernel
theorem dX2_plead_2 : decode cX2_plead 2 = .ok (.putfield 9, 3) := by decide +kernel
theorem dX2_plead_5 : decode cX2_plead 5 = .ok (.aload_n 0, 1) := by decide +kernel
theorem dX2_plead_6 : decode cX2_plead 6 = .ok (.bipush (-6), 2) := by decide +kernel
theorem dX2_plead_8 : decode cX2_plead 8 = .ok (.putfield 15, 3) := by decide +kernel
theorem dX2_plead_11 : decode cX2_plead 11 = .ok (.aload_n 0, 1) := by decide +kernel
theorem dX2_plead_12 : decode cX2_plead 12 = .ok (.iconst 0, 1) := by decide +kernel
theorem dX2_plead_13 : decode cX2_plead 13 = .ok (.putfield 18, 3) := by decide +kernel
theorem dX2_plead_16 : decode cX2_plead 16 = .ok (.aload_n 0, 1) := by decide +kernel
theorem dX2_plead_17 : decode cX2_plead 17 = .ok (.iconst 0, 1) := by decide +kernel
theorem dX2_plead_18 : decode cX2_plead 18 = .ok (.putfield 21, 3) := by decide +kernel
theorem dX2_plead_21 : decode cX2_plead 21 = .ok (.aload_n 0, 1) := by decide +kernel
theorem dX2_plead_22 : decode cX2_plead 22 = .ok (.iconst 0, 1) := by decide +kernel
theorem dX2_plead_23 : decode cX2_plead 23 = .ok (.putfield 24, 3) := by decide +kernel
theorem dX2_plead_26 : decode cX2_plead 26 = .ok (.aload_n 0, 1) := by decide +kernel
theorem dX2_plead_27 : decode cX2_plead 27 = .ok (.iconst 0, 1) := by decide +kernel
theorem dX2_plead_28 : decode cX2_plead 28 = .ok (.putfield 27, 3) := by decide +kernel
theorem dX2_plead_31 : decode cX2_plead 31 = .ok (.iconst 0, 1) := by decide +kernel
theorem dX2_plead_32 : decode cX2_plead 32 = .ok (.istore 7, 2) := by decide +kernel
theorem dX2_plead_34 : decode cX2_plead 34 = .ok (.iload_n 3, 1) := by decide +kernel
theorem dX2_plead_35 : decode cX2_plead 35 = .ok (.istore 8, 2) := by decide +kernel
theorem dX2_plead_37 : decode cX2_plead 37 = .ok (.iload 8, 2) := by decide +kernel
theorem dX2_plead_39 : decode cX2_plead 39 = .ok (.aload_n 1, 1) := by decide +kernel
theorem dX2_plead_40 : decode cX2_plead 40 = .ok (.getfield 30, 3) := by decide +kernel
theorem dX2_plead_43 : decode cX2_plead 43 = .ok (.if_icmp .ge 78, 3) := by decide +kernel
theorem dX2_plead_46 : decode cX2_plead 46 = .ok (.aload_n 0, 1) := by decide +kernel
theorem dX2_plead_47 : decode cX2_plead 47 = .ok (.getfield 15, 3) := by decide +kernel
theorem dX2_plead_50 : decode cX2_plead 50 = .ok (.bipush (-6), 2) := by decide +kernel
theorem dX2_plead_52 : decode cX2_plead 52 = .ok (.if_icmp .ne 69, 3) := by decide +kernel
theorem dX2_plead_55 : decode cX2_plead 55 = .ok (.aload_n 2, 1) := by decide +kernel
theorem dX2_plead_56 : decode cX2_plead 56 = .ok (.iload 8, 2) := by decide +kernel
theorem dX2_plead_58 : decode cX2_plead 58 = .ok (.invokestatic 35, 3) := by decide +kernel
theorem dX2_plead_61 : decode cX2_plead 61 = .ok (.istore 9, 2) := by decide +kernel
theorem dX2_plead_63 : decode cX2_plead 63 = .ok (.iload 7, 2) := by decide +kernel
theorem dX2_plead_65 : decode cX2_plead 65 = .ok (.aload_n 1, 1) := by decide +kernel
theorem dX2_plead_66 : decode cX2_plead 66 = .ok (.iload 9, 2) := by decide +kernel
theorem dX2_plead_68 : decode cX2_plead 68 = .ok (.invokevirtual 39, 3) := by decide +kernel
theorem dX2_plead_71 : decode cX2_plead 71 = .ok (.iload 5, 2) := by decide +kernel
theorem dX2_plead_73 : decode cX2_plead 73 = .ok (.iload 9, 2) := by decide +kernel
theorem dX2_plead_75 : decode cX2_plead 75 = .ok (.ishr, 1) := by decide +kernel
theorem dX2_plead_76 : decode cX2_plead 76 = .ok (.iconst 1, 1) := by decide +kernel
theorem dX2_plead_77 : decode cX2_plead 77 = .ok (.iand, 1) := by decide +kernel
theorem dX2_plead_78 : decode cX2_plead 78 = .ok (.ifCond .eq 8, 3) := by decide +kernel
theorem dX2_plead_81 : decode cX2_plead 81 = .ok (.iload 6, 2) := by decide +kernel
theorem dX2_plead_83 : decode cX2_plead 83 = .ok (.goto 4, 3) := by decide +kernel
theorem dX2_plead_86 : decode cX2_plead 86 = .ok (.iconst 0, 1) := by decide +kernel
theorem dX2_plead_87 : decode cX2_plead 87 = .ok (.iadd, 1) := by decide +kernel
theorem dX2_plead_88 : decode cX2_plead 88 = .ok (.iadd, 1) := by decide +kernel
theorem dX2_plead_89 : decode cX2_plead 89 = .ok (.istore 7, 2) := by decide +kernel
theorem dX2_plead_91 : decode cX2_plead 91 = .ok (.iload 7, 2) := by decide +kernel
theorem dX2_plead_93 : decode cX2_plead 93 = .ok (.iload 4, 2) := by decide +kernel
theorem dX2_plead_95 : decode cX2_plead 95 = .ok (.if_icmp .le 13, 3) := by decide +kernel
theorem dX2_plead_98 : decode cX2_plead 98 = .ok (.aload_n 0, 1) := by decide +kernel
theorem dX2_plead_99 : decode cX2_plead 99 = .ok (.aload_n 1, 1) := by decide +kernel
theorem dX2_plead_100 : decode cX2_plead 100 = .ok (.iload 9, 2) := by decide +kernel
theorem dX2_plead_102 : decode cX2_plead 102 = .ok (.invokevirtual 43, 3) := by decide +kernel
theorem dX2_plead_105 : decode cX2_plead 105 = .ok (.goto 10, 3) := by decide +kernel
theorem dX2_plead_108 : decode cX2_plead 108 = .ok (.aload_n 0, 1) := by decide +kernel
theorem dX2_plead_109 : decode cX2_plead 109 = .ok (.aload_n 1, 1) := by decide +kernel
theorem dX2_plead_110 : decode cX2_plead 110 = .ok (.iload 9, 2) := by decide +kernel
theorem dX2_plead_112 : decode cX2_plead 112 = .ok (.invokevirtual 47, 3) := by decide +kernel
theorem dX2_plead_115 : decode cX2_plead 115 = .ok (.iinc 8 1, 3) := by decide +kernel
theorem dX2_plead_118 : decode cX2_plead 118 = .ok (.goto (-81), 3) := by decide +kernel
theorem dX2_plead_121 : decode cX2_plead 121 = .ok (.return_, 1) := by decide +kernel
set_option maxRecDepth 20000 in
theorem ggX2_decide_X3_at : GoodIn wsX2_decide wsX3_at := goodIn_r _ [9] (by decide +kernel) (by decide +kernel)
set_option maxRecDepth 20000 in
theorem gX2_decide_X3_at_n35 : GoodIn wsX2_decide (wsX3_at) := ggX2_decide_X3_at
theorem dX2_decide_0 : decode cX2_decide 0 = .ok (.aload_n 0, 1) := by decide +kernel
theorem dX2_decide_1 : decode cX2_decide 1 = .ok (.dup, 1) := by decide +kernel
theorem dX2_decide_2 : decode cX2_decide 2 = .ok (.getfield 9, 3) := by decide +kernel
theorem dX2_decide_5 : decode cX2_decide 5 = .ok (.iconst 1, 1) := by decide +kernel
theorem dX2_decide_6 : decode cX2_decide 6 = .ok (.iadd, 1) := by decide +kernel
theorem dX2_decide_7 : decode cX2_decide 7 = .ok (.putfield 9, 3) := by decide +kernel
theorem dX2_decide_10 : decode cX2_decide 10 = .ok (.aload_n 0, 1) := by decide +kernel
theorem dX2_decide_11 : decode cX2_decide 11 = .ok (.dup, 1) := by decide +kernel
theorem dX2_decide_12 : decode cX2_decide 12 = .ok (.getfield 27, 3) := by decide +kernel
theorem dX2_decide_15 : decode cX2_decide 15 = .ok (.aload_n 1, 1) := by decide +kernel
theorem dX2_decide_16 : decode cX2_decide 16 = .ok (.getfield 50, 3) := by decide +kernel
theorem dX2_decide_19 : decode cX2_decide 19 = .ok (.iload_n 2, 1) := by decide +kernel
theorem dX2_decide_20 : decode cX2_decide 20 = .ok (.invokestatic 35, 3) := by decide +kernel
theorem dX2_decide_23 : decode cX2_decide 23 = .ok (.iadd, 1) := by decide +kernel
theorem dX2_decide_24 : decode cX2_decide 24 = .ok (.putfield 27, 3) := by decide +kernel
theorem dX2_decide_27 : decode cX2_decide 27 = .ok (.aload_n 1, 1) := by decide +kernel
theorem dX2_decide_28 : decode cX2_decide 28 = .ok (.getfield 54, 3) := by decide +kernel
theorem dX2_decide_31 : decode cX2_decide 31 = .ok (.iload_n 2, 1) := by decide +kernel
theorem dX2_decide_32 : decode cX2_decide 32 = .ok (.invokestatic 35, 3) := by decide +kernel
theorem dX2_decide_35 : decode cX2_decide 35 = .ok (.ifCond .ne 23, 3) := by decide +kernel
theorem dX2_decide_38 : decode cX2_decide 38 = .ok (.aload_n 0, 1) := by decide +kernel
theorem dX2_decide_39 : decode cX2_decide 39 = .ok (.dup, 1) := by decide +kernel
theorem dX2_decide_40 : decode cX2_decide 40 = .ok (.getfield 18, 3) := by decide +kernel
theorem dX2_decide_43 : decode cX2_decide 43 = .ok (.aload_n 1, 1) := by decide +kernel
theorem dX2_decide_44 : decode cX2_decide 44 = .ok (.getfield 50, 3) := by decide +kernel
theorem dX2_decide_47 : decode cX2_decide 47 = .ok (.iload_n 2, 1) := by decide +kernel
theorem dX2_decide_48 : decode cX2_decide 48 = .ok (.invokestatic 35, 3) := by decide +kernel
theorem dX2_decide_51 : decode cX2_decide 51 = .ok (.iadd, 1) := by decide +kernel
theorem dX2_decide_52 : decode cX2_decide 52 = .ok (.putfield 18, 3) := by decide +kernel
theorem dX2_decide_55 : decode cX2_decide 55 = .ok (.goto 20, 3) := by decide +kernel
theorem dX2_decide_58 : decode cX2_decide 58 = .ok (.aload_n 0, 1) := by decide +kernel
theorem dX2_decide_59 : decode cX2_decide 59 = .ok (.dup, 1) := by decide +kernel
theorem dX2_decide_60 : decode cX2_decide 60 = .ok (.getfield 21, 3) := by decide +kernel
theorem dX2_decide_63 : decode cX2_decide 63 = .ok (.aload_n 1, 1) := by decide +kernel
theorem dX2_decide_64 : decode cX2_decide 64 = .ok (.getfield 50, 3) := by decide +kernel
theorem dX2_decide_67 : decode cX2_decide 67 = .ok (.iload_n 2, 1) := by decide +kernel
theorem dX2_decide_68 : decode cX2_decide 68 = .ok (.invokestatic 35, 3) := by decide +kernel
theorem dX2_decide_71 : decode cX2_decide 71 = .ok (.iadd, 1) := by decide +kernel
theorem dX2_decide_72 : decode cX2_decide 72 = .ok (.putfield 21, 3) := by decide +kernel
theorem dX2_decide_75 : decode cX2_decide 75 = .ok (.return_, 1) := by decide +kernel
set_option maxRecDepth 20000 in
theorem ggX2_sink_X3_at : GoodIn wsX2_sink wsX3_at := goodIn_r _ [8] (by decide +kernel) (by decide +kernel)
set_option maxRecDepth 20000 in
theorem gX2_sink_X3_at_n35 : GoodIn wsX2_sink (wsX3_at) := ggX2_sink_X3_at
theorem dX2_sink_0 : decode cX2_sink 0 = .ok (.aload_n 0, 1) := by decide +kernel
theorem dX2_sink_1 : decode cX2_sink 1 = .ok (.iload_n 2, 1) := by decide +kernel
theorem dX2_sink_2 : decode cX2_sink 2 = .ok (.putfield 15, 3) := by decide +kernel
theorem dX2_sink_5 : decode cX2_sink 5 = .ok (.aload_n 1, 1) := by decide +kernel
theorem dX2_sink_6 : decode cX2_sink 6 = .ok (.getfield 57, 3) := by decide +kernel
theorem dX2_sink_9 : decode cX2_sink 9 = .ok (.ifCond .ne 23, 3) := by decide +kernel
theorem dX2_sink_12 : decode cX2_sink 12 = .ok (.aload_n 0, 1) := by decide +kernel
theorem dX2_sink_13 : decode cX2_sink 13 = .ok (.dup, 1) := by decide +kernel
theorem dX2_sink_14 : decode cX2_sink 14 = .ok (.getfield 18, 3) := by decide +kernel
theorem dX2_sink_17 : decode cX2_sink 17 = .ok (.aload_n 1, 1) := by decide +kernel
theorem dX2_sink_18 : decode cX2_sink 18 = .ok (.getfield 50, 3) := by decide +kernel
theorem dX2_sink_21 : decode cX2_sink 21 = .ok (.iload_n 2, 1) := by decide +kernel
theorem dX2_sink_22 : decode cX2_sink 22 = .ok (.invokestatic 35, 3) := by decide +kernel
theorem dX2_sink_25 : decode cX2_sink 25 = .ok (.iadd, 1) := by decide +kernel
theorem dX2_sink_26 : decode cX2_sink 26 = .ok (.putfield 18, 3) := by decide +kernel
theorem dX2_sink_29 : decode cX2_sink 29 = .ok (.goto 20, 3) := by decide +kernel
theorem dX2_sink_32 : decode cX2_sink 32 = .ok (.aload_n 0, 1) := by decide +kernel
theorem dX2_sink_33 : decode cX2_sink 33 = .ok (.dup, 1) := by decide +kernel
theorem dX2_sink_34 : decode cX2_sink 34 = .ok (.getfield 24, 3) := by decide +kernel
theorem dX2_sink_37 : decode cX2_sink 37 = .ok (.aload_n 1, 1) := by decide +kernel
theorem dX2_sink_38 : decode cX2_sink 38 = .ok (.getfield 50, 3) := by decide +kernel
theorem dX2_sink_41 : decode cX2_sink 41 = .ok (.iload_n 2, 1) := by decide +kernel
theorem dX2_sink_42 : decode cX2_sink 42 = .ok (.invokestatic 35, 3) := by decide +kernel
theorem dX2_sink_45 : decode cX2_sink 45 = .ok (.iadd, 1) := by decide +kernel
theorem dX2_sink_46 : decode cX2_sink 46 = .ok (.putfield 24, 3) := by decide +kernel
theorem dX2_sink_49 : decode cX2_sink 49 = .ok (.return_, 1) := by decide +kernel
theorem dX2_has_0 : decode cX2_has 0 = .ok (.iload_n 1, 1) := by decide +kernel
theorem dX2_has_1 : decode cX2_has 1 = .ok (.tableswitch 51 0 3 #[31, 36, 41, 46], 31) := by decide +kernel
theorem dX2_has_32 : decode cX2_has 32 = .ok (.aload_n 0, 1) := by decide +kernel
theorem dX2_has_33 : decode cX2_has 33 = .ok (.getfield 18, 3) := by decide +kernel
theorem dX2_has_36 : decode cX2_has 36 = .ok (.ireturn, 1) := by decide +kernel
theorem dX2_has_37 : decode cX2_has 37 = .ok (.aload_n 0, 1) := by decide +kernel
theorem dX2_has_38 : decode cX2_has 38 = .ok (.getfield 21, 3) := by decide +kernel
theorem dX2_has_41 : decode cX2_has 41 = .ok (.ireturn, 1) := by decide +kernel
theorem dX2_has_42 : decode cX2_has 42 = .ok (.aload_n 0, 1) := by decide +kernel
theorem dX2_has_43 : decode cX2_has 43 = .ok (.getfield 24, 3) := by decide +kernel
theorem dX2_has_46 : decode cX2_has 46 = .ok (.ireturn, 1) := by decide +kernel
theorem dX2_has_47 : decode cX2_has 47 = .ok (.aload_n 0, 1) := by decide +kernel
theorem dX2_has_48 : decode cX2_has 48 = .ok (.getfield 27, 3) := by decide +kernel
theorem dX2_has_51 : decode cX2_has 51 = .ok (.ireturn, 1) := by decide +kernel
theorem dX2_has_52 : decode cX2_has 52 = .ok (.iconst 0, 1) := by decide +kernel
theorem dX2_has_53 : decode cX2_has 53 = .ok (.ireturn, 1) := by decide +kernel
set_option maxRecDepth 20000 in
theorem ggX3_init_X0_init : GoodIn wsX3_init wsX0_init := goodIn_r _ [23, 24, 2, 3, 25, 26, 27, 28, 29, 30, 31, 4, 32, 33, 34, 35, 36, 37, 38, 67, 68, 69, 70, 71, 72, 73, 74, 75, 76, 77, 78, 79, 80] (by decide +kernel) (by decide +kernel)
set_option maxRecDepth 20000 in
theorem gX3_init_X0_init_n19 : GoodIn wsX3_init (wsX0_init) := ggX3_init_X0_init
set_option maxRecDepth 20000 in
theorem ggX3_init_X2_init : GoodIn wsX3_init wsX2_init := goodIn_r _ [40, 41, 2, 3, 42, 43, 44, 45, 46, 47, 81, 82, 83, 84, 85, 86] (by decide +kernel) (by decide +kernel)
set_option maxRecDepth 20000 in
theorem gX3_init_X2_init_n30 : GoodIn wsX3_init (wsX2_init) := ggX3_init_X2_init
set_option maxRecDepth 20000 in
theorem ggX3_init_X1_init : GoodIn wsX3_init wsX1_init := goodIn_r _ [49, 50, 2, 3, 51, 52, 53, 54, 4, 55, 56, 57, 58, 87, 88, 89, 90, 91, 92, 93, 94] (by decide +kernel) (by decide +kernel)
set_option maxRecDepth 20000 in
theorem gX3_init_X1_init_n37 : GoodIn wsX3_init (wsX1_init) := ggX3_init_X1_init
theorem dX3_init_0 : decode cX3_init 0 = .ok (.aload_n 0, 1) := by decide +kernel
theorem dX3_init_1 : decode cX3_init 1 = .ok (.invokespecial 1, 3) := by decide +kernel
theorem dX3_init_4 : decode cX3_init 4 = .ok (.aload_n 0, 1) := by decide +kernel
theorem dX3_init_5 : decode cX3_init 5 = .ok (.bipush 60, 2) := by decide +kernel
theorem dX3_init_7 : decode cX3_init 7 = .ok (.newarray .int, 2) := by decide +kernel
theorem dX3_init_9 : decode cX3_init 9 = .ok (.putfield 9, 3) := by decide +kernel
theorem dX3_init_12 : decode cX3_init 12 = .ok (.aload_n 0, 1) := by decide +kernel
theorem dX3_init_13 : decode cX3_init 13 = .ok (.iconst 0, 1) := by decide +kernel
theorem dX3_init_14 : decode cX3_init 14 = .ok (.putfield 13, 3) := by decide +kernel
theorem dX3_init_17 : decode cX3_init 17 = .ok (.aload_n 0, 1) := by decide +kernel
theorem dX3_init_18 : decode cX3_init 18 = .ok (.new 17, 3) := by decide +kernel
theorem dX3_init_21 : decode cX3_init 21 = .ok (.dup, 1) := by decide +kernel
theorem dX3_init_22 : decode cX3_init 22 = .ok (.invokespecial 19, 3) := by decide +kernel
theorem dX3_init_25 : decode cX3_init 25 = .ok (.putfield 20, 3) := by decide +kernel
theorem dX3_init_28 : decode cX3_init 28 = .ok (.aload_n 0, 1) := by decide +kernel
theorem dX3_init_29 : decode cX3_init 29 = .ok (.iconst 2, 1) := by decide +kernel
theorem dX3_init_30 : decode cX3_init 30 = .ok (.anewarray 17, 3) := by decide +kernel
theorem dX3_init_33 : decode cX3_init 33 = .ok (.putfield 24, 3) := by decide +kernel
theorem dX3_init_36 : decode cX3_init 36 = .ok (.iconst 0, 1) := by decide +kernel
theorem dX3_init_37 : decode cX3_init 37 = .ok (.istore_n 1, 1) := by decide +kernel
theorem dX3_init_38 : decode cX3_init 38 = .ok (.iload_n 1, 1) := by decide +kernel
theorem dX3_init_39 : decode cX3_init 39 = .ok (.aload_n 0, 1) := by decide +kernel
theorem dX3_init_40 : decode cX3_init 40 = .ok (.getfield 24, 3) := by decide +kernel
theorem dX3_init_43 : decode cX3_init 43 = .ok (.arraylength, 1) := by decide +kernel
theorem dX3_init_44 : decode cX3_init 44 = .ok (.if_icmp .ge 22, 3) := by decide +kernel
theorem dX3_init_47 : decode cX3_init 47 = .ok (.aload_n 0, 1) := by decide +kernel
theorem dX3_init_48 : decode cX3_init 48 = .ok (.getfield 24, 3) := by decide +kernel
theorem dX3_init_51 : decode cX3_init 51 = .ok (.iload_n 1, 1) := by decide +kernel
theorem dX3_init_52 : decode cX3_init 52 = .ok (.new 17, 3) := by decide +kernel
theorem dX3_init_55 : decode cX3_init 55 = .ok (.dup, 1) := by decide +kernel
theorem dX3_init_56 : decode cX3_init 56 = .ok (.invokespecial 19, 3) := by decide +kernel
theorem dX3_init_59 : decode cX3_init 59 = .ok (.aastore, 1) := by decide +kernel
theorem dX3_init_60 : decode cX3_init 60 = .ok (.iinc 1 1, 3) := by decide +kernel
theorem dX3_init_63 : decode cX3_init 63 = .ok (.goto (-25), 3) := by decide +kernel
theorem dX3_init_66 : decode cX3_init 66 = .ok (.aload_n 0, 1) := by decide +kernel
theorem dX3_init_67 : decode cX3_init 67 = .ok (.new 28, 3) := by decide +kernel
theorem dX3_init_70 : decode cX3_init 70 = .ok (.dup, 1) := by decide +kernel
theorem dX3_init_71 : decode cX3_init 71 = .ok (.invokespecial 30, 3) := by decide +kernel
theorem dX3_init_74 : decode cX3_init 74 = .ok (.putfield 31, 3) := by decide +kernel
theorem dX3_init_77 : decode cX3_init 77 = .ok (.aload_n 0, 1) := by decide +kernel
theorem dX3_init_78 : decode cX3_init 78 = .ok (.new 35, 3) := by decide +kernel
theorem dX3_init_81 : decode cX3_init 81 = .ok (.dup, 1) := by decide +kernel
theorem dX3_init_82 : decode cX3_init 82 = .ok (.invokespecial 37, 3) := by decide +kernel
theorem dX3_init_85 : decode cX3_init 85 = .ok (.putfield 38, 3) := by decide +kernel
theorem dX3_init_88 : decode cX3_init 88 = .ok (.aload_n 0, 1) := by decide +kernel
theorem dX3_init_89 : decode cX3_init 89 = .ok (.bipush 6, 2) := by decide +kernel
theorem dX3_init_91 : decode cX3_init 91 = .ok (.newarray .int, 2) := by decide +kernel
theorem dX3_init_93 : decode cX3_init 93 = .ok (.putfield 42, 3) := by decide +kernel
theorem dX3_init_96 : decode cX3_init 96 = .ok (.aload_n 0, 1) := by decide +kernel
theorem dX3_init_97 : decode cX3_init 97 = .ok (.bipush 6, 2) := by decide +kernel
theorem dX3_init_99 : decode cX3_init 99 = .ok (.newarray .int, 2) := by decide +kernel
theorem dX3_init_101 : decode cX3_init 101 = .ok (.putfield 45, 3) := by decide +kernel
theorem dX3_init_104 : decode cX3_init 104 = .ok (.return_, 1) := by decide +kernel
set_option maxRecDepth 20000 in
theorem ggX3_set_X3_settable : GoodIn wsX3_set wsX3_settable := goodIn_r _ [5, 6, 7, 4, 8] (by decide +kernel) (by decide +kernel)
set_option maxRecDepth 20000 in
theorem gX3_set_X3_settable : GoodIn wsX3_set (va_wsS RX3 48 yX3_settable wsX3_settable) := goodIn_app (goodIn_of _ (by decide +kernel)) ggX3_set_X3_settable
set_option maxRecDepth 20000 in
theorem ggX3_set_X0_setting : GoodIn wsX3_set wsX0_setting := goodIn_r _ [13, 14, 15, 16, 17, 30, 31, 32, 33, 34, 35, 36, 37, 38, 39, 40, 41, 42, 43] (by decide +kernel) (by decide +kernel)
set_option maxRecDepth 20000 in
theorem gX3_set_X0_setting : GoodIn wsX3_set (wsV RX3 52 RX0 yX0_setting wsX0_setting) := goodIn_app (goodIn_of _ (by decide +kernel)) ggX3_set_X0_setting
set_option maxRecDepth 20000 in
theorem ggX3_set_X0_change : GoodIn wsX3_set wsX0_change := goodIn_r _ [21, 14, 15, 16, 17, 30, 31, 32, 33, 34, 35, 36, 37, 38, 39, 40, 41, 42, 43] (by decide +kernel) (by decide +kernel)
set_option maxRecDepth 20000 in
theorem gX3_set_X0_change : GoodIn wsX3_set (wsV RX3 56 RX0 yX0_change wsX0_change) := goodIn_app (goodIn_of _ (by decide +kernel)) ggX3_set_X0_change
theorem dX3_set_0 : decode cX3_set 0 = .ok (.iload_n 1, 1) := by decide +kernel
theorem dX3_set_1 : decode cX3_set 1 = .ok (.iload_n 2, 1) := by decide +kernel
theorem dX3_set_2 : decode cX3_set 2 = .ok (.invokestatic 48, 3) := by decide +kernel
theorem dX3_set_5 : decode cX3_set 5 = .ok (.ifCond .ne 6, 3) := by decide +kernel
theorem dX3_set_8 : decode cX3_set 8 = .ok (.bipush (-2), 2) := by decide +kernel
theorem dX3_set_10 : decode cX3_set 10 = .ok (.ireturn, 1) := by decide +kernel
theorem dX3_set_11 : decode cX3_set 11 = .ok (.aload_n 0, 1) := by decide +kernel
theorem dX3_set_12 : decode cX3_set 12 = .ok (.getfield 20, 3) := by decide +kernel
theorem dX3_set_15 : decode cX3_set 15 = .ok (.iload_n 1, 1) := by decide +kernel
theorem dX3_set_16 : decode cX3_set 16 = .ok (.invokevirtual 52, 3) := by decide +kernel
theorem dX3_set_19 : decode cX3_set 19 = .ok (.istore_n 3, 1) := by decide +kernel
theorem dX3_set_20 : decode cX3_set 20 = .ok (.aload_n 0, 1) := by decide +kernel
theorem dX3_set_21 : decode cX3_set 21 = .ok (.getfield 20, 3) := by decide +kernel
theorem dX3_set_24 : decode cX3_set 24 = .ok (.iload_n 1, 1) := by decide +kernel
theorem dX3_set_25 : decode cX3_set 25 = .ok (.iload_n 2, 1) := by decide +kernel
theorem dX3_set_26 : decode cX3_set 26 = .ok (.invokevirtual 56, 3) := by decide +kernel
theorem dX3_set_29 : decode cX3_set 29 = .ok (.iload_n 3, 1) := by decide +kernel
theorem dX3_set_30 : decode cX3_set 30 = .ok (.ireturn, 1) := by decide +kernel
set_option maxRecDepth 20000 in
theorem ggX3_say_X3_within : GoodIn wsX3_say wsX3_within := goodIn_r _ [6] (by decide +kernel) (by decide +kernel)
set_option maxRecDepth 20000 in
theorem gX3_say_X3_within : GoodIn wsX3_say (va_wsS RX3 60 yX3_within wsX3_within) := goodIn_app (goodIn_of _ (by decide +kernel)) ggX3_say_X3_within
set_option maxRecDepth 20000 in
theorem ggX3_say_X3_put : GoodIn wsX3_say wsX3_put := goodIn_r _ [9] (by decide +kernel) (by decide +kernel)
set_option maxRecDepth 20000 in
theorem gX3_say_X3_put : GoodIn wsX3_say (va_wsS RX3 64 yX3_put wsX3_put) := goodIn_app (goodIn_of _ (by decide +kernel)) ggX3_say_X3_put
theorem dX3_say_0 : decode cX3_say 0 = .ok (.iload_n 1, 1) := by decide +kernel
theorem dX3_say_1 : decode cX3_say 1 = .ok (.bipush 33, 2) := by decide +kernel
theorem dX3_say_3 : decode cX3_say 3 = .ok (.bipush 126, 2) := by decide +kernel
theorem dX3_say_5 : decode cX3_say 5 = .ok (.invokestatic 60, 3) := by decide +kernel
theorem dX3_say_8 : decode cX3_say 8 = .ok (.ifCond .ne 6, 3) := by decide +kernel
theorem dX3_say_11 : decode cX3_say 11 = .ok (.bipush (-2), 2) := by decide +kernel
theorem dX3_say_13 : decode cX3_say 13 = .ok (.ireturn, 1) := by decide +kernel
theorem dX3_say_14 : decode cX3_say 14 = .ok (.aload_n 0, 1) := by decide +kernel
theorem dX3_say_15 : decode cX3_say 15 = .ok (.getfield 13, 3) := by decide +kernel
theorem dX3_say_18 : decode cX3_say 18 = .ok (.bipush 60, 2) := by decide +kernel
theorem dX3_say_20 : decode cX3_say 20 = .ok (.if_icmp .lt 6, 3) := by decide +kernel
theorem dX3_say_23 : decode cX3_say 23 = .ok (.bipush (-4), 2) := by decide +kernel
theorem dX3_say_25 : decode cX3_say 25 = .ok (.ireturn, 1) := by decide +kernel
theorem dX3_say_26 : decode cX3_say 26 = .ok (.aload_n 0, 1) := by decide +kernel
theorem dX3_say_27 : decode cX3_say 27 = .ok (.getfield 9, 3) := by decide +kernel
theorem dX3_say_30 : decode cX3_say 30 = .ok (.aload_n 0, 1) := by decide +kernel
theorem dX3_say_31 : decode cX3_say 31 = .ok (.getfield 13, 3) := by decide +kernel
theorem dX3_say_34 : decode cX3_say 34 = .ok (.iload_n 1, 1) := by decide +kernel
theorem dX3_say_35 : decode cX3_say 35 = .ok (.invokestatic 64, 3) := by decide +kernel
theorem dX3_say_38 : decode cX3_say 38 = .ok (.aload_n 0, 1) := by decide +kernel
theorem dX3_say_39 : decode cX3_say 39 = .ok (.dup, 1) := by decide +kernel
theorem dX3_say_40 : decode cX3_say 40 = .ok (.getfield 13, 3) := by decide +kernel
theorem dX3_say_43 : decode cX3_say 43 = .ok (.iconst 1, 1) := by decide +kernel
theorem dX3_say_44 : decode cX3_say 44 = .ok (.iadd, 1) := by decide +kernel
theorem dX3_say_45 : decode cX3_say 45 = .ok (.putfield 13, 3) := by decide +kernel
theorem dX3_say_48 : decode cX3_say 48 = .ok (.aload_n 0, 1) := by decide +kernel
theorem dX3_say_49 : decode cX3_say 49 = .ok (.getfield 13, 3) := by decide +kernel
theorem dX3_say_52 : decode cX3_say 52 = .ok (.ireturn, 1) := by decide +kernel
theorem dX3_wipe_0 : decode cX3_wipe 0 = .ok (.aload_n 0, 1) := by decide +kernel
theorem dX3_wipe_1 : decode cX3_wipe 1 = .ok (.getfield 13, 3) := by decide +kernel
theorem dX3_wipe_4 : decode cX3_wipe 4 = .ok (.istore_n 1, 1) := by decide +kernel
theorem dX3_wipe_5 : decode cX3_wipe 5 = .ok (.aload_n 0, 1) := by decide +kernel
theorem dX3_wipe_6 : decode cX3_wipe 6 = .ok (.iconst 0, 1) := by decide +kernel
theorem dX3_wipe_7 : decode cX3_wipe 7 = .ok (.putfield 13, 3) := by decide +kernel
theorem dX3_wipe_10 : decode cX3_wipe 10 = .ok (.iload_n 1, 1) := by decide +kernel
theorem dX3_wipe_11 : decode cX3_wipe 11 = .ok (.ireturn, 1) := by decide +kernel
set_option maxRecDepth 20000 in
theorem ggX3_fault_X1_read : GoodIn wsX3_fault wsX1_read := goodIn_r _ [8, 9, 10, 11, 12, 13, 7, 14, 15, 16, 17, 18, 19, 20, 21, 22, 23, 24, 25, 26, 27, 28, 29, 30, 31, 32, 33, 34, 35, 36, 37, 38, 39, 40, 41, 42, 43, 44, 45, 46, 47, 68, 69, 70, 71, 72, 73, 74, 75] (by decide +kernel) (by decide +kernel)
set_option maxRecDepth 20000 in
theorem gX3_fault_X1_read : GoodIn wsX3_fault (wsV RX3 68 RX1 yX1_read wsX1_read) := goodIn_app (goodIn_of _ (by decide +kernel)) ggX3_fault_X1_read
set_option maxRecDepth 20000 in
theorem ggX3_fault_X3_orderFault : GoodIn wsX3_fault wsX3_orderFault := goodIn_r _ [51, 3, 2, 52, 53, 54, 17, 18, 19, 55, 56, 57, 58, 59, 26, 27, 60, 61, 62, 63, 64, 65, 66, 67, 76, 77, 78, 79, 80, 81, 82, 83, 84, 85, 86, 87, 88, 89] (by decide +kernel) (by decide +kernel)
set_option maxRecDepth 20000 in
theorem gX3_fault_X3_orderFault : GoodIn wsX3_fault (wsV RX3 72 RX3 yX3_orderFault wsX3_orderFault) := goodIn_app (goodIn_of _ (by decide +kernel)) ggX3_fault_X3_orderFault
theorem dX3_fault_0 : decode cX3_fault 0 = .ok (.iload_n 1, 1) := by decide +kernel
theorem dX3_fault_1 : decode cX3_fault 1 = .ok (.ifCond .ne 19, 3) := by decide +kernel
theorem dX3_fault_4 : decode cX3_fault 4 = .ok (.aload_n 0, 1) := by decide +kernel
theorem dX3_fault_5 : decode cX3_fault 5 = .ok (.getfield 38, 3) := by decide +kernel
theorem dX3_fault_8 : decode cX3_fault 8 = .ok (.aload_n 0, 1) := by decide +kernel
theorem dX3_fault_9 : decode cX3_fault 9 = .ok (.getfield 9, 3) := by decide +kernel
theorem dX3_fault_12 : decode cX3_fault 12 = .ok (.aload_n 0, 1) := by decide +kernel
theorem dX3_fault_13 : decode cX3_fault 13 = .ok (.getfield 13, 3) := by decide +kernel
theorem dX3_fault_16 : decode cX3_fault 16 = .ok (.invokevirtual 68, 3) := by decide +kernel
theorem dX3_fault_19 : decode cX3_fault 19 = .ok (.ireturn, 1) := by decide +kernel
theorem dX3_fault_20 : decode cX3_fault 20 = .ok (.iload_n 1, 1) := by decide +kernel
theorem dX3_fault_21 : decode cX3_fault 21 = .ok (.iconst 1, 1) := by decide +kernel
theorem dX3_fault_22 : decode cX3_fault 22 = .ok (.if_icmp .ne 8, 3) := by decide +kernel
theorem dX3_fault_25 : decode cX3_fault 25 = .ok (.aload_n 0, 1) := by decide +kernel
theorem dX3_fault_26 : decode cX3_fault 26 = .ok (.invokevirtual 72, 3) := by decide +kernel
theorem dX3_fault_29 : decode cX3_fault 29 = .ok (.ireturn, 1) := by decide +kernel
theorem dX3_fault_30 : decode cX3_fault 30 = .ok (.bipush (-2), 2) := by decide +kernel
theorem dX3_fault_32 : decode cX3_fault 32 = .ok (.ireturn, 1) := by decide +kernel
set_option maxRecDepth 20000 in
theorem ggX3_suits_X1_read : GoodIn wsX3_suits wsX1_read := goodIn_r _ [10, 11, 12, 13, 14, 15, 9, 16, 17, 18, 19, 20, 21, 22, 23, 24, 25, 26, 27, 28, 29, 30, 31, 32, 33, 34, 35, 36, 37, 38, 39, 40, 41, 42, 43, 44, 45, 46, 47, 48, 49, 92, 93, 94, 95, 96, 97, 98, 99] (by decide +kernel) (by decide +kernel)
set_option maxRecDepth 20000 in
theorem gX3_suits_X1_read : GoodIn wsX3_suits (wsV RX3 68 RX1 yX1_read wsX1_read) := goodIn_app (goodIn_of _ (by decide +kernel)) ggX3_suits_X1_read
set_option maxRecDepth 20000 in
theorem ggX3_suits_X0_take : GoodIn wsX3_suits wsX0_take := goodIn_r _ [54, 55, 56, 57, 58, 59, 60, 61, 62, 63, 64, 65, 66, 67, 20, 68, 69, 19, 21, 38, 39, 92, 93, 94, 95, 96, 97, 98, 99, 78, 79, 80, 81, 82, 83, 84, 85, 86, 87, 88, 89, 90, 91] (by decide +kernel) (by decide +kernel)
set_option maxRecDepth 20000 in
theorem gX3_suits_X0_take : GoodIn wsX3_suits (wsV RX3 76 RX0 yX0_take wsX0_take) := goodIn_app (goodIn_of _ (by decide +kernel)) ggX3_suits_X0_take
theorem dX3_suits_0 : decode cX3_suits 0 = .ok (.aload_n 0, 1) := by decide +kernel
theorem dX3_suits_1 : decode cX3_suits 1 = .ok (.getfield 38, 3) := by decide +kernel
theorem dX3_suits_4 : decode cX3_suits 4 = .ok (.aload_n 0, 1) := by decide +kernel
theorem dX3_suits_5 : decode cX3_suits 5 = .ok (.getfield 9, 3) := by decide +kernel
theorem dX3_suits_8 : decode cX3_suits 8 = .ok (.aload_n 0, 1) := by decide +kernel
theorem dX3_suits_9 : decode cX3_suits 9 = .ok (.getfield 13, 3) := by decide +kernel
theorem dX3_suits_12 : decode cX3_suits 12 = .ok (.invokevirtual 68, 3) := by decide +kernel
theorem dX3_suits_15 : decode cX3_suits 15 = .ok (.bipush (-6), 2) := by decide +kernel
theorem dX3_suits_17 : decode cX3_suits 17 = .ok (.if_icmp .eq 6, 3) := by decide +kernel
theorem dX3_suits_20 : decode cX3_suits 20 = .ok (.bipush (-5), 2) := by decide +kernel
theorem dX3_suits_22 : decode cX3_suits 22 = .ok (.ireturn, 1) := by decide +kernel
theorem dX3_suits_23 : decode cX3_suits 23 = .ok (.aload_n 0, 1) := by decide +kernel
theorem dX3_suits_24 : decode cX3_suits 24 = .ok (.getfield 20, 3) := by decide +kernel
theorem dX3_suits_27 : decode cX3_suits 27 = .ok (.aload_n 0, 1) := by decide +kernel
theorem dX3_suits_28 : decode cX3_suits 28 = .ok (.getfield 38, 3) := by decide +kernel
theorem dX3_suits_31 : decode cX3_suits 31 = .ok (.invokevirtual 76, 3) := by decide +kernel
theorem dX3_suits_34 : decode cX3_suits 34 = .ok (.aload_n 0, 1) := by decide +kernel
theorem dX3_suits_35 : decode cX3_suits 35 = .ok (.iconst 0, 1) := by decide +kernel
theorem dX3_suits_36 : decode cX3_suits 36 = .ok (.putfield 13, 3) := by decide +kernel
theorem dX3_suits_39 : decode cX3_suits 39 = .ok (.aload_n 0, 1) := by decide +kernel
theorem dX3_suits_40 : decode cX3_suits 40 = .ok (.getfield 20, 3) := by decide +kernel
theorem dX3_suits_43 : decode cX3_suits 43 = .ok (.getfield 80, 3) := by decide +kernel
theorem dX3_suits_46 : decode cX3_suits 46 = .ok (.ireturn, 1) := by decide +kernel
set_option maxRecDepth 20000 in
theorem ggX3_lay_X3_orderFault : GoodIn wsX3_lay wsX3_orderFault := goodIn_r _ [10, 5, 4, 1, 2, 11, 12, 9, 13, 14, 15, 16, 17, 18, 19, 20, 24, 25, 26, 27, 28, 29, 30, 31, 32, 33, 34, 35, 36, 37, 38, 39, 40, 41, 42, 43, 44, 45] (by decide +kernel) (by decide +kernel)
set_option maxRecDepth 20000 in
theorem gX3_lay_X3_orderFault : GoodIn wsX3_lay (wsV RX3 72 RX3 yX3_orderFault wsX3_orderFault) := goodIn_app (goodIn_of _ (by decide +kernel)) ggX3_lay_X3_orderFault
set_option maxRecDepth 20000 in
theorem ggX3_lay_X3_at : GoodIn wsX3_lay wsX3_at := goodIn_r _ [13] (by decide +kernel) (by decide +kernel)
set_option maxRecDepth 20000 in
theorem gX3_lay_X3_at : GoodIn wsX3_lay (va_wsS RX3 86 yX3_at wsX3_at) := goodIn_app (goodIn_of _ (by decide +kernel)) ggX3_lay_X3_at
set_option maxRecDepth 20000 in
theorem ggX3_lay_X3_put : GoodIn wsX3_lay wsX3_put := goodIn_r _ [23] (by decide +kernel) (by decide +kernel)
set_option maxRecDepth 20000 in
theorem gX3_lay_X3_put : GoodIn wsX3_lay (va_wsS RX3 64 yX3_put wsX3_put) := goodIn_app (goodIn_of _ (by decide +kernel)) ggX3_lay_X3_put
theorem dX3_lay_0 : decode cX3_lay 0 = .ok (.aload_n 0, 1) := by decide +kernel
theorem dX3_lay_1 : decode cX3_lay 1 = .ok (.invokevirtual 72, 3) := by decide +kernel
theorem dX3_lay_4 : decode cX3_lay 4 = .ok (.bipush (-6), 2) := by decide +kernel
theorem dX3_lay_6 : decode cX3_lay 6 = .ok (.if_icmp .eq 6, 3) := by decide +kernel
theorem dX3_lay_9 : decode cX3_lay 9 = .ok (.bipush (-5), 2) := by decide +kernel
theorem dX3_lay_11 : decode cX3_lay 11 = .ok (.ireturn, 1) := by decide +kernel
theorem dX3_lay_12 : decode cX3_lay 12 = .ok (.iconst 0, 1) := by decide +kernel
theorem dX3_lay_13 : decode cX3_lay 13 = .ok (.istore_n 1, 1) := by decide +kernel
theorem dX3_lay_14 : decode cX3_lay 14 = .ok (.iload_n 1, 1) := by decide +kernel
theorem dX3_lay_15 : decode cX3_lay 15 = .ok (.aload_n 0, 1) := by decide +kernel
theorem dX3_lay_16 : decode cX3_lay 16 = .ok (.getfield 20, 3) := by decide +kernel
theorem dX3_lay_19 : decode cX3_lay 19 = .ok (.getfield 80, 3) := by decide +kernel
theorem dX3_lay_22 : decode cX3_lay 22 = .ok (.if_icmp .ge 31, 3) := by decide +kernel
theorem dX3_lay_25 : decode cX3_lay 25 = .ok (.aload_n 0, 1) := by decide +kernel
theorem dX3_lay_26 : decode cX3_lay 26 = .ok (.getfield 20, 3) := by decide +kernel
theorem dX3_lay_29 : decode cX3_lay 29 = .ok (.getfield 83, 3) := by decide +kernel
theorem dX3_lay_32 : decode cX3_lay 32 = .ok (.iload_n 1, 1) := by decide +kernel
theorem dX3_lay_33 : decode cX3_lay 33 = .ok (.aload_n 0, 1) := by decide +kernel
theorem dX3_lay_34 : decode cX3_lay 34 = .ok (.getfield 9, 3) := by decide +kernel
theorem dX3_lay_37 : decode cX3_lay 37 = .ok (.iload_n 1, 1) := by decide +kernel
theorem dX3_lay_38 : decode cX3_lay 38 = .ok (.invokestatic 86, 3) := by decide +kernel
theorem dX3_lay_41 : decode cX3_lay 41 = .ok (.bipush 48, 2) := by decide +kernel
theorem dX3_lay_43 : decode cX3_lay 43 = .ok (.isub, 1) := by decide +kernel
theorem dX3_lay_44 : decode cX3_lay 44 = .ok (.invokestatic 64, 3) := by decide +kernel
theorem dX3_lay_47 : decode cX3_lay 47 = .ok (.iinc 1 1, 3) := by decide +kernel
theorem dX3_lay_50 : decode cX3_lay 50 = .ok (.goto (-36), 3) := by decide +kernel
theorem dX3_lay_53 : decode cX3_lay 53 = .ok (.aload_n 0, 1) := by decide +kernel
theorem dX3_lay_54 : decode cX3_lay 54 = .ok (.iconst 0, 1) := by decide +kernel
theorem dX3_lay_55 : decode cX3_lay 55 = .ok (.putfield 13, 3) := by decide +kernel
theorem dX3_lay_58 : decode cX3_lay 58 = .ok (.iconst 1, 1) := by decide +kernel
theorem dX3_lay_59 : decode cX3_lay 59 = .ok (.ireturn, 1) := by decide +kernel
set_option maxRecDepth 20000 in
theorem ggX3_suit_X3_isSuit : GoodIn wsX3_suit wsX3_isSuit := goodIn_r _ [10, 1, 11, 12, 13, 9, 14, 18, 19, 20, 21, 22, 23, 24, 25, 26, 27, 28, 29, 30, 31, 32, 33, 34, 35, 36, 37, 38, 39] (by decide +kernel) (by decide +kernel)
set_option maxRecDepth 20000 in
theorem gX3_suit_X3_isSuit : GoodIn wsX3_suit (wsV RX3 89 RX3 yX3_isSuit wsX3_isSuit) := goodIn_app (goodIn_of _ (by decide +kernel)) ggX3_suit_X3_isSuit
set_option maxRecDepth 20000 in
theorem ggX3_suit_X3_at : GoodIn wsX3_suit wsX3_at := goodIn_r _ [17] (by decide +kernel) (by decide +kernel)
set_option maxRecDepth 20000 in
theorem gX3_suit_X3_at : GoodIn wsX3_suit (va_wsS RX3 86 yX3_at wsX3_at) := goodIn_app (goodIn_of _ (by decide +kernel)) ggX3_suit_X3_at
theorem dX3_suit_0 : decode cX3_suit 0 = .ok (.aload_n 0, 1) := by decide +kernel
theorem dX3_suit_1 : decode cX3_suit 1 = .ok (.iload_n 1, 1) := by decide +kernel
theorem dX3_suit_2 : decode cX3_suit 2 = .ok (.invokevirtual 89, 3) := by decide +kernel
theorem dX3_suit_5 : decode cX3_suit 5 = .ok (.ifCond .ne 5, 3) := by decide +kernel
theorem dX3_suit_8 : decode cX3_suit 8 = .ok (.iconst (-1), 1) := by decide +kernel
theorem dX3_suit_9 : decode cX3_suit 9 = .ok (.ireturn, 1) := by decide +kernel
theorem dX3_suit_10 : decode cX3_suit 10 = .ok (.iload_n 2, 1) := by decide +kernel
theorem dX3_suit_11 : decode cX3_suit 11 = .ok (.tableswitch 77 0 3 #[29, 41, 53, 65], 29) := by decide +kernel
theorem dX3_suit_40 : decode cX3_suit 40 = .ok (.aload_n 0, 1) := by decide +kernel
theorem dX3_suit_41 : decode cX3_suit 41 = .ok (.getfield 20, 3) := by decide +kernel
theorem dX3_suit_44 : decode cX3_suit 44 = .ok (.getfield 93, 3) := by decide +kernel
theorem dX3_suit_47 : decode cX3_suit 47 = .ok (.iload_n 1, 1) := by decide +kernel
theorem dX3_suit_48 : decode cX3_suit 48 = .ok (.invokestatic 86, 3) := by decide +kernel
theorem dX3_suit_51 : decode cX3_suit 51 = .ok (.ireturn, 1) := by decide +kernel
theorem dX3_suit_52 : decode cX3_suit 52 = .ok (.aload_n 0, 1) := by decide +kernel
theorem dX3_suit_53 : decode cX3_suit 53 = .ok (.getfield 20, 3) := by decide +kernel
theorem dX3_suit_56 : decode cX3_suit 56 = .ok (.getfield 96, 3) := by decide +kernel
theorem dX3_suit_59 : decode cX3_suit 59 = .ok (.iload_n 1, 1) := by decide +kernel
theorem dX3_suit_60 : decode cX3_suit 60 = .ok (.invokestatic 86, 3) := by decide +kernel
theorem dX3_suit_63 : decode cX3_suit 63 = .ok (.ireturn, 1) := by decide +kernel
theorem dX3_suit_64 : decode cX3_suit 64 = .ok (.aload_n 0, 1) := by decide +kernel
theorem dX3_suit_65 : decode cX3_suit 65 = .ok (.getfield 20, 3) := by decide +kernel
theorem dX3_suit_68 : decode cX3_suit 68 = .ok (.getfield 99, 3) := by decide +kernel
theorem dX3_suit_71 : decode cX3_suit 71 = .ok (.iload_n 1, 1) := by decide +kernel
theorem dX3_suit_72 : decode cX3_suit 72 = .ok (.invokestatic 86, 3) := by decide +kernel
theorem dX3_suit_75 : decode cX3_suit 75 = .ok (.ireturn, 1) := by decide +kernel
theorem dX3_suit_76 : decode cX3_suit 76 = .ok (.aload_n 0, 1) := by decide +kernel
theorem dX3_suit_77 : decode cX3_suit 77 = .ok (.getfield 20, 3) := by decide +kernel
theorem dX3_suit_80 : decode cX3_suit 80 = .ok (.getfield 102, 3) := by decide +kernel
theorem dX3_suit_83 : decode cX3_suit 83 = .ok (.iload_n 1, 1) := by decide +kernel
theorem dX3_suit_84 : decode cX3_suit 84 = .ok (.invokestatic 86, 3) := by decide +kernel
theorem dX3_suit_87 : decode cX3_suit 87 = .ok (.ireturn, 1) := by decide +kernel
theorem dX3_suit_88 : decode cX3_suit 88 = .ok (.bipush (-2), 2) := by decide +kernel
theorem dX3_suit_90 : decode cX3_suit 90 = .ok (.ireturn, 1) := by decide +kernel
set_option maxRecDepth 20000 in
theorem ggX3_day_X3_within : GoodIn wsX3_day wsX3_within := goodIn_r _ [8] (by decide +kernel) (by decide +kernel)
set_option maxRecDepth 20000 in
theorem gX3_day_X3_within : GoodIn wsX3_day (va_wsS RX3 60 yX3_within wsX3_within) := goodIn_app (goodIn_of _ (by decide +kernel)) ggX3_day_X3_within
set_option maxRecDepth 20000 in
theorem ggX3_day_X0_floats : GoodIn wsX3_day wsX0_floats := goodIn_r _ [13, 14, 15, 16, 17, 18, 12, 19, 20, 21, 7, 22, 73, 74, 75, 76, 77, 78, 79, 80, 81, 82, 83, 84, 85, 86] (by decide +kernel) (by decide +kernel)
set_option maxRecDepth 20000 in
theorem gX3_day_X0_floats : GoodIn wsX3_day (wsV RX3 105 RX0 yX0_floats wsX0_floats) := goodIn_app (goodIn_of _ (by decide +kernel)) ggX3_day_X0_floats
set_option maxRecDepth 20000 in
theorem ggX3_day_X3_sitToday : GoodIn wsX3_day wsX3_sitToday := goodIn_r _ [26, 2, 1, 27, 9, 10, 11, 12, 13, 14, 15, 16, 17, 18, 19, 20, 21, 7, 22, 28, 29, 30, 31, 32, 33, 34, 35, 36, 37, 38, 39, 40, 41, 42, 43, 44, 45, 46, 47, 48, 49, 50, 51, 52, 53, 54, 55, 56, 57, 58, 59, 60, 61, 62, 63, 64, 65, 66, 73, 74, 75, 76, 77, 78, 79, 80, 81, 82, 83, 84, 85, 86, 67, 68, 69, 70, 71, 72] (by decide +kernel) (by decide +kernel)
set_option maxRecDepth 20000 in
theorem gX3_day_X3_sitToday : GoodIn wsX3_day (wsV RX3 108 RX3 yX3_sitToday wsX3_sitToday) := goodIn_app (goodIn_of _ (by decide +kernel)) ggX3_day_X3_sitToday
theorem dX3_day_0 : decode cX3_day 0 = .ok (.iload_n 1, 1) := by decide +kernel
theorem dX3_day_1 : decode cX3_day 1 = .ok (.iconst 0, 1) := by decide +kernel
theorem dX3_day_2 : decode cX3_day 2 = .ok (.iconst 2, 1) := by decide +kernel
theorem dX3_day_3 : decode cX3_day 3 = .ok (.invokestatic 60, 3) := by decide +kernel
theorem dX3_day_6 : decode cX3_day 6 = .ok (.ifCond .ne 6, 3) := by decide +kernel
theorem dX3_day_9 : decode cX3_day 9 = .ok (.bipush (-2), 2) := by decide +kernel
theorem dX3_day_11 : decode cX3_day 11 = .ok (.ireturn, 1) := by decide +kernel
theorem dX3_day_12 : decode cX3_day 12 = .ok (.iload_n 1, 1) := by decide +kernel
theorem dX3_day_13 : decode cX3_day 13 = .ok (.ifCond .ne 11, 3) := by decide +kernel
theorem dX3_day_16 : decode cX3_day 16 = .ok (.aload_n 0, 1) := by decide +kernel
theorem dX3_day_17 : decode cX3_day 17 = .ok (.getfield 20, 3) := by decide +kernel
theorem dX3_day_20 : decode cX3_day 20 = .ok (.invokevirtual 105, 3) := by decide +kernel
theorem dX3_day_23 : decode cX3_day 23 = .ok (.ireturn, 1) := by decide +kernel
theorem dX3_day_24 : decode cX3_day 24 = .ok (.aload_n 0, 1) := by decide +kernel
theorem dX3_day_25 : decode cX3_day 25 = .ok (.invokevirtual 108, 3) := by decide +kernel
theorem dX3_day_28 : decode cX3_day 28 = .ok (.iload_n 1, 1) := by decide +kernel
theorem dX3_day_29 : decode cX3_day 29 = .ok (.iconst 1, 1) := by decide +kernel
theorem dX3_day_30 : decode cX3_day 30 = .ok (.if_icmp .ne 13, 3) := by decide +kernel
theorem dX3_day_33 : decode cX3_day 33 = .ok (.aload_n 0, 1) := by decide +kernel
theorem dX3_day_34 : decode cX3_day 34 = .ok (.getfield 31, 3) := by decide +kernel
theorem dX3_day_37 : decode cX3_day 37 = .ok (.getfield 111, 3) := by decide +kernel
theorem dX3_day_40 : decode cX3_day 40 = .ok (.goto 10, 3) := by decide +kernel
theorem dX3_day_43 : decode cX3_day 43 = .ok (.aload_n 0, 1) := by decide +kernel
theorem dX3_day_44 : decode cX3_day 44 = .ok (.getfield 31, 3) := by decide +kernel
theorem dX3_day_47 : decode cX3_day 47 = .ok (.getfield 114, 3) := by decide +kernel
theorem dX3_day_50 : decode cX3_day 50 = .ok (.ireturn, 1) := by decide +kernel
set_option maxRecDepth 20000 in
theorem ggX3_over_X3_isSuit : GoodIn wsX3_over wsX3_isSuit := goodIn_r _ [6, 1, 7, 8, 9, 5, 10, 80, 81, 82, 83, 84, 85, 86, 87, 88, 89, 90, 91, 92, 93, 94, 95, 96, 97, 98, 99, 100, 101] (by decide +kernel) (by decide +kernel)
set_option maxRecDepth 20000 in
theorem gX3_over_X3_isSuit : GoodIn wsX3_over (wsV RX3 89 RX3 yX3_isSuit wsX3_isSuit) := goodIn_app (goodIn_of _ (by decide +kernel)) ggX3_over_X3_isSuit
set_option maxRecDepth 20000 in
theorem ggX3_over_X3_within : GoodIn wsX3_over wsX3_within := goodIn_r _ [10] (by decide +kernel) (by decide +kernel)
set_option maxRecDepth 20000 in
theorem gX3_over_X3_within : GoodIn wsX3_over (va_wsS RX3 60 yX3_within wsX3_within) := goodIn_app (goodIn_of _ (by decide +kernel)) ggX3_over_X3_within
set_option maxRecDepth 20000 in
theorem ggX3_over_X0_end : GoodIn wsX3_over wsX0_end := goodIn_r _ [15, 16, 17, 18, 19, 14, 20, 21, 22, 5, 23, 24, 25, 26, 27, 28, 29, 88, 89, 90, 91, 92, 93, 94, 95, 96, 97, 98, 99, 100, 101] (by decide +kernel) (by decide +kernel)
set_option maxRecDepth 20000 in
theorem gX3_over_X0_end : GoodIn wsX3_over (wsV RX3 117 RX0 yX0_end wsX0_end) := goodIn_app (goodIn_of _ (by decide +kernel)) ggX3_over_X0_end
set_option maxRecDepth 20000 in
theorem ggX3_over_X3_fate : GoodIn wsX3_over wsX3_fate := goodIn_r _ [33, 34, 35, 1, 36, 37, 38, 39, 5, 40, 41, 42, 43, 44, 14, 45, 46, 47, 48, 49, 50, 51, 52, 53, 54, 55, 56, 57, 58, 59, 60, 61, 62, 63, 64, 65, 66, 22, 23, 67, 25, 26, 27, 28, 29, 68, 69, 70, 71, 72, 73, 74, 75, 76, 77, 78, 79, 18, 19, 20, 21, 16, 80, 81, 82, 83, 84, 85, 86, 87, 102, 103, 104, 105, 106, 107, 88, 89, 90, 91, 92, 93, 94, 95, 96, 97, 98, 99, 100, 101] (by decide +kernel) (by decide +kernel)
set_option maxRecDepth 20000 in
theorem gX3_over_X3_fate : GoodIn wsX3_over (wsV RX3 120 RX3 yX3_fate wsX3_fate) := goodIn_app (goodIn_of _ (by decide +kernel)) ggX3_over_X3_fate
theorem dX3_over_0 : decode cX3_over 0 = .ok (.aload_n 0, 1) := by decide +kernel
theorem dX3_over_1 : decode cX3_over 1 = .ok (.iload_n 1, 1) := by decide +kernel
theorem dX3_over_2 : decode cX3_over 2 = .ok (.invokevirtual 89, 3) := by decide +kernel
theorem dX3_over_5 : decode cX3_over 5 = .ok (.ifCond .ne 5, 3) := by decide +kernel
theorem dX3_over_8 : decode cX3_over 8 = .ok (.iconst (-1), 1) := by decide +kernel
theorem dX3_over_9 : decode cX3_over 9 = .ok (.ireturn, 1) := by decide +kernel
theorem dX3_over_10 : decode cX3_over 10 = .ok (.iload_n 2, 1) := by decide +kernel
theorem dX3_over_11 : decode cX3_over 11 = .ok (.iconst 0, 1) := by decide +kernel
theorem dX3_over_12 : decode cX3_over 12 = .ok (.iconst 1, 1) := by decide +kernel
theorem dX3_over_13 : decode cX3_over 13 = .ok (.invokestatic 60, 3) := by decide +kernel
theorem dX3_over_16 : decode cX3_over 16 = .ok (.ifCond .ne 6, 3) := by decide +kernel
theorem dX3_over_19 : decode cX3_over 19 = .ok (.bipush (-2), 2) := by decide +kernel
theorem dX3_over_21 : decode cX3_over 21 = .ok (.ireturn, 1) := by decide +kernel
theorem dX3_over_22 : decode cX3_over 22 = .ok (.iload_n 2, 1) := by decide +kernel
theorem dX3_over_23 : decode cX3_over 23 = .ok (.ifCond .ne 14, 3) := by decide +kernel
theorem dX3_over_26 : decode cX3_over 26 = .ok (.aload_n 0, 1) := by decide +kernel
theorem dX3_over_27 : decode cX3_over 27 = .ok (.getfield 20, 3) := by decide +kernel
theorem dX3_over_30 : decode cX3_over 30 = .ok (.iload_n 1, 1) := by decide +kernel
theorem dX3_over_31 : decode cX3_over 31 = .ok (.invokevirtual 117, 3) := by decide +kernel
theorem dX3_over_34 : decode cX3_over 34 = .ok (.goto 8, 3) := by decide +kernel
theorem dX3_over_37 : decode cX3_over 37 = .ok (.aload_n 0, 1) := by decide +kernel
theorem dX3_over_38 : decode cX3_over 38 = .ok (.iload_n 1, 1) := by decide +kernel
theorem dX3_over_39 : decode cX3_over 39 = .ok (.invokevirtual 120, 3) := by decide +kernel
theorem dX3_over_42 : decode cX3_over 42 = .ok (.ireturn, 1) := by decide +kernel
set_option maxRecDepth 20000 in
theorem ggX3_won_X3_isSide : GoodIn wsX3_won wsX3_isSide := goodIn_r _ [5, 6, 7, 4, 8] (by decide +kernel) (by decide +kernel)
set_option maxRecDepth 20000 in
theorem gX3_won_X3_isSide : GoodIn wsX3_won (va_wsS RX3 123 yX3_isSide wsX3_isSide) := goodIn_app (goodIn_of _ (by decide +kernel)) ggX3_won_X3_isSide
set_option maxRecDepth 20000 in
theorem ggX3_won_X3_sitToday : GoodIn wsX3_won wsX3_sitToday := goodIn_r _ [12, 1, 13, 14, 15, 16, 17, 18, 19, 20, 21, 22, 23, 24, 25, 26, 27, 4, 28, 29, 30, 31, 32, 33, 34, 35, 36, 37, 38, 39, 40, 41, 42, 43, 44, 45, 46, 47, 48, 49, 50, 51, 52, 53, 54, 55, 56, 57, 58, 59, 64, 65, 66, 67, 68, 69, 70, 71, 72, 73, 74, 75, 76, 77, 78, 79, 80, 81, 82, 83, 84, 85, 86, 87, 88, 89, 90, 91] (by decide +kernel) (by decide +kernel)
set_option maxRecDepth 20000 in
theorem gX3_won_X3_sitToday : GoodIn wsX3_won (wsV RX3 108 RX3 yX3_sitToday wsX3_sitToday) := goodIn_app (goodIn_of _ (by decide +kernel)) ggX3_won_X3_sitToday
set_option maxRecDepth 20000 in
theorem ggX3_won_X2_has : GoodIn wsX3_won wsX2_has := goodIn_r _ [63, 36, 37, 38, 39, 86, 87, 88, 89, 90, 91] (by decide +kernel) (by decide +kernel)
set_option maxRecDepth 20000 in
theorem gX3_won_X2_has : GoodIn wsX3_won (wsV RX3 126 RX2 yX2_has wsX2_has) := goodIn_app (goodIn_of _ (by decide +kernel)) ggX3_won_X2_has
theorem dX3_won_0 : decode cX3_won 0 = .ok (.iload_n 1, 1) := by decide +kernel
theorem dX3_won_1 : decode cX3_won 1 = .ok (.invokestatic 123, 3) := by decide +kernel
theorem dX3_won_4 : decode cX3_won 4 = .ok (.ifCond .ne 6, 3) := by decide +kernel
theorem dX3_won_7 : decode cX3_won 7 = .ok (.bipush (-2), 2) := by decide +kernel
theorem dX3_won_9 : decode cX3_won 9 = .ok (.ireturn, 1) := by decide +kernel
theorem dX3_won_10 : decode cX3_won 10 = .ok (.aload_n 0, 1) := by decide +kernel
theorem dX3_won_11 : decode cX3_won 11 = .ok (.invokevirtual 108, 3) := by decide +kernel
theorem dX3_won_14 : decode cX3_won 14 = .ok (.aload_n 0, 1) := by decide +kernel
theorem dX3_won_15 : decode cX3_won 15 = .ok (.getfield 31, 3) := by decide +kernel
theorem dX3_won_18 : decode cX3_won 18 = .ok (.iload_n 1, 1) := by decide +kernel
theorem dX3_won_19 : decode cX3_won 19 = .ok (.invokevirtual 126, 3) := by decide +kernel
theorem dX3_won_22 : decode cX3_won 22 = .ok (.ireturn, 1) := by decide +kernel
set_option maxRecDepth 20000 in
theorem ggX3_order_X3_isSide : GoodIn wsX3_order wsX3_isSide := goodIn_r _ [7, 8, 9, 6, 10] (by decide +kernel) (by decide +kernel)
set_option maxRecDepth 20000 in
theorem gX3_order_X3_isSide : GoodIn wsX3_order (va_wsS RX3 123 yX3_isSide wsX3_isSide) := goodIn_app (goodIn_of _ (by decide +kernel)) ggX3_order_X3_isSide
set_option maxRecDepth 20000 in
theorem ggX3_order_X3_findBest : GoodIn wsX3_order wsX3_findBest := goodIn_r _ [14, 15, 16, 1, 3, 2, 17, 18, 6, 19, 20, 21, 22, 23, 24, 25, 26, 27, 28, 29, 30, 31, 32, 33, 34, 35, 36, 37, 38, 39, 40, 41, 42, 43, 44, 45, 46, 47, 48, 49, 50, 51, 52, 53, 54, 55, 56, 57, 58, 59, 60, 61, 62, 63, 64, 65, 66, 67, 68, 69, 70, 71, 72, 73, 74, 75, 76, 77, 78, 79, 80, 81, 82, 83, 84, 85, 86, 87, 88, 89, 90, 91, 92, 93, 94, 95, 96, 97, 98, 99, 100, 101, 102, 103, 104, 105, 106] (by decide +kernel) (by decide +kernel)
set_option maxRecDepth 20000 in
theorem gX3_order_X3_findBest : GoodIn wsX3_order (wsV RX3 129 RX3 yX3_findBest wsX3_findBest) := goodIn_app (goodIn_of _ (by decide +kernel)) ggX3_order_X3_findBest
set_option maxRecDepth 20000 in
theorem ggX3_order_X3_at : GoodIn wsX3_order wsX3_at := goodIn_r _ [47] (by decide +kernel) (by decide +kernel)
set_option maxRecDepth 20000 in
theorem gX3_order_X3_at : GoodIn wsX3_order (va_wsS RX3 86 yX3_at wsX3_at) := goodIn_app (goodIn_of _ (by decide +kernel)) ggX3_order_X3_at
theorem dX3_order_0 : decode cX3_order 0 = .ok (.iload_n 1, 1) := by decide +kernel
theorem dX3_order_1 : decode cX3_order 1 = .ok (.invokestatic 123, 3) := by decide +kernel
theorem dX3_order_4 : decode cX3_order 4 = .ok (.ifCond .ne 6, 3) := by decide +kernel
theorem dX3_order_7 : decode cX3_order 7 = .ok (.bipush (-2), 2) := by decide +kernel
theorem dX3_order_9 : decode cX3_order 9 = .ok (.ireturn, 1) := by decide +kernel
theorem dX3_order_10 : decode cX3_order 10 = .ok (.iload_n 2, 1) := by decide +kernel
theorem dX3_order_11 : decode cX3_order 11 = .ok (.iconst (-1), 1) := by decide +kernel
theorem dX3_order_12 : decode cX3_order 12 = .ok (.if_icmp .lt 14, 3) := by decide +kernel
theorem dX3_order_15 : decode cX3_order 15 = .ok (.iload_n 2, 1) := by decide +kernel
theorem dX3_order_16 : decode cX3_order 16 = .ok (.aload_n 0, 1) := by decide +kernel
theorem dX3_order_17 : decode cX3_order 17 = .ok (.getfield 20, 3) := by decide +kernel
theorem dX3_order_20 : decode cX3_order 20 = .ok (.getfield 80, 3) := by decide +kernel
theorem dX3_order_23 : decode cX3_order 23 = .ok (.if_icmp .lt 6, 3) := by decide +kernel
theorem dX3_order_26 : decode cX3_order 26 = .ok (.bipush (-6), 2) := by decide +kernel
theorem dX3_order_28 : decode cX3_order 28 = .ok (.ireturn, 1) := by decide +kernel
theorem dX3_order_29 : decode cX3_order 29 = .ok (.aload_n 0, 1) := by decide +kernel
theorem dX3_order_30 : decode cX3_order 30 = .ok (.iload_n 1, 1) := by decide +kernel
theorem dX3_order_31 : decode cX3_order 31 = .ok (.invokevirtual 129, 3) := by decide +kernel
theorem dX3_order_34 : decode cX3_order 34 = .ok (.istore_n 3, 1) := by decide +kernel
theorem dX3_order_35 : decode cX3_order 35 = .ok (.iload_n 2, 1) := by decide +kernel
theorem dX3_order_36 : decode cX3_order 36 = .ok (.iconst (-1), 1) := by decide +kernel
theorem dX3_order_37 : decode cX3_order 37 = .ok (.if_icmp .ne 7, 3) := by decide +kernel
theorem dX3_order_40 : decode cX3_order 40 = .ok (.iload_n 3, 1) := by decide +kernel
theorem dX3_order_41 : decode cX3_order 41 = .ok (.goto 11, 3) := by decide +kernel
theorem dX3_order_44 : decode cX3_order 44 = .ok (.aload_n 0, 1) := by decide +kernel
theorem dX3_order_45 : decode cX3_order 45 = .ok (.getfield 45, 3) := by decide +kernel
theorem dX3_order_48 : decode cX3_order 48 = .ok (.iload_n 2, 1) := by decide +kernel
theorem dX3_order_49 : decode cX3_order 49 = .ok (.invokestatic 86, 3) := by decide +kernel
theorem dX3_order_52 : decode cX3_order 52 = .ok (.ireturn, 1) := by decide +kernel
set_option maxRecDepth 20000 in
theorem ggX3_wax_X3_isSet : GoodIn wsX3_wax wsX3_isSet := goodIn_r _ [7, 1, 8, 9, 10, 6, 11, 42, 43, 44, 45, 46, 47, 48, 49, 50, 51, 52, 53, 54, 55, 56, 57, 58, 59, 60, 61, 62, 63] (by decide +kernel) (by decide +kernel)
set_option maxRecDepth 20000 in
theorem gX3_wax_X3_isSet : GoodIn wsX3_wax (wsV RX3 132 RX3 yX3_isSet wsX3_isSet) := goodIn_app (goodIn_of _ (by decide +kernel)) ggX3_wax_X3_isSet
set_option maxRecDepth 20000 in
theorem ggX3_wax_X3_lastEnd : GoodIn wsX3_wax wsX3_lastEnd := goodIn_r _ [15, 1, 8, 16, 17, 18, 19, 20, 21, 22, 23, 24, 25, 26, 27, 6, 28, 29, 30, 31, 32, 33, 34, 42, 43, 44, 45, 46, 47, 48, 49, 50, 51, 52, 53, 54, 55, 56, 57, 58, 59, 60, 61, 62, 63] (by decide +kernel) (by decide +kernel)
set_option maxRecDepth 20000 in
theorem gX3_wax_X3_lastEnd : GoodIn wsX3_wax (wsV RX3 135 RX3 yX3_lastEnd wsX3_lastEnd) := goodIn_app (goodIn_of _ (by decide +kernel)) ggX3_wax_X3_lastEnd
set_option maxRecDepth 20000 in
theorem ggX3_wax_X0_floatsBy : GoodIn wsX3_wax wsX0_floatsBy := goodIn_r _ [38, 39, 40, 6, 41, 50, 51, 52, 53, 54, 55, 56, 57, 58, 59, 60, 61, 62, 63] (by decide +kernel) (by decide +kernel)
set_option maxRecDepth 20000 in
theorem gX3_wax_X0_floatsBy : GoodIn wsX3_wax (wsV RX3 141 RX0 yX0_floatsBy wsX0_floatsBy) := goodIn_app (goodIn_of _ (by decide +kernel)) ggX3_wax_X0_floatsBy
theorem dX3_wax_0 : decode cX3_wax 0 = .ok (.aload_n 0, 1) := by decide +kernel
theorem dX3_wax_1 : decode cX3_wax 1 = .ok (.iload_n 1, 1) := by decide +kernel
theorem dX3_wax_2 : decode cX3_wax 2 = .ok (.invokevirtual 132, 3) := by decide +kernel
theorem dX3_wax_5 : decode cX3_wax 5 = .ok (.ifCond .ne 6, 3) := by decide +kernel
theorem dX3_wax_8 : decode cX3_wax 8 = .ok (.bipush (-2), 2) := by decide +kernel
theorem dX3_wax_10 : decode cX3_wax 10 = .ok (.ireturn, 1) := by decide +kernel
theorem dX3_wax_11 : decode cX3_wax 11 = .ok (.aload_n 0, 1) := by decide +kernel
theorem dX3_wax_12 : decode cX3_wax 12 = .ok (.iload_n 1, 1) := by decide +kernel
theorem dX3_wax_13 : decode cX3_wax 13 = .ok (.invokevirtual 135, 3) := by decide +kernel
theorem dX3_wax_16 : decode cX3_wax 16 = .ok (.istore_n 2, 1) := by decide +kernel
theorem dX3_wax_17 : decode cX3_wax 17 = .ok (.iconst 1, 1) := by decide +kernel
theorem dX3_wax_18 : decode cX3_wax 18 = .ok (.istore_n 3, 1) := by decide +kernel
theorem dX3_wax_19 : decode cX3_wax 19 = .ok (.iload_n 3, 1) := by decide +kernel
theorem dX3_wax_20 : decode cX3_wax 20 = .ok (.bipush 99, 2) := by decide +kernel
theorem dX3_wax_22 : decode cX3_wax 22 = .ok (.if_icmp .gt 30, 3) := by decide +kernel
theorem dX3_wax_25 : decode cX3_wax 25 = .ok (.aload_n 0, 1) := by decide +kernel
theorem dX3_wax_26 : decode cX3_wax 26 = .ok (.getfield 20, 3) := by decide +kernel
theorem dX3_wax_29 : decode cX3_wax 29 = .ok (.iload_n 3, 1) := by decide +kernel
theorem dX3_wax_30 : decode cX3_wax 30 = .ok (.aload_n 0, 1) := by decide +kernel
theorem dX3_wax_31 : decode cX3_wax 31 = .ok (.getfield 20, 3) := by decide +kernel
theorem dX3_wax_34 : decode cX3_wax 34 = .ok (.getfield 138, 3) := by decide +kernel
theorem dX3_wax_37 : decode cX3_wax 37 = .ok (.invokevirtual 141, 3) := by decide +kernel
theorem dX3_wax_40 : decode cX3_wax 40 = .ok (.iload_n 2, 1) := by decide +kernel
theorem dX3_wax_41 : decode cX3_wax 41 = .ok (.if_icmp .lt 5, 3) := by decide +kernel
theorem dX3_wax_44 : decode cX3_wax 44 = .ok (.iload_n 3, 1) := by decide +kernel
theorem dX3_wax_45 : decode cX3_wax 45 = .ok (.ireturn, 1) := by decide +kernel
theorem dX3_wax_46 : decode cX3_wax 46 = .ok (.iinc 3 1, 3) := by decide +kernel
theorem dX3_wax_49 : decode cX3_wax 49 = .ok (.goto (-30), 3) := by decide +kernel
theorem dX3_wax_52 : decode cX3_wax 52 = .ok (.bipush (-6), 2) := by decide +kernel
theorem dX3_wax_54 : decode cX3_wax 54 = .ok (.ireturn, 1) := by decide +kernel
set_option maxRecDepth 20000 in
theorem ggX3_finger_X3_isSet : GoodIn wsX3_finger wsX3_isSet := goodIn_r _ [8, 1, 9, 10, 11, 7, 12, 39, 40, 41, 42, 43, 44, 45, 46, 47, 48, 49, 50, 51, 52, 53, 54, 55, 56, 57, 58, 59, 60] (by decide +kernel) (by decide +kernel)
set_option maxRecDepth 20000 in
theorem gX3_finger_X3_isSet : GoodIn wsX3_finger (wsV RX3 132 RX3 yX3_isSet wsX3_isSet) := goodIn_app (goodIn_of _ (by decide +kernel)) ggX3_finger_X3_isSet
set_option maxRecDepth 20000 in
theorem ggX3_finger_X3_lastEnd : GoodIn wsX3_finger wsX3_lastEnd := goodIn_r _ [16, 1, 9, 17, 18, 19, 20, 21, 22, 23, 24, 25, 26, 27, 28, 7, 29, 30, 31, 32, 33, 34, 35, 39, 40, 41, 42, 43, 44, 45, 46, 47, 48, 49, 50, 51, 52, 53, 54, 55, 56, 57, 58, 59, 60] (by decide +kernel) (by decide +kernel)
set_option maxRecDepth 20000 in
theorem gX3_finger_X3_lastEnd : GoodIn wsX3_finger (wsV RX3 135 RX3 yX3_lastEnd wsX3_lastEnd) := goodIn_app (goodIn_of _ (by decide +kernel)) ggX3_finger_X3_lastEnd
set_option maxRecDepth 20000 in
theorem ggX3_finger_X3_burns : GoodIn wsX3_finger wsX3_burns := goodIn_r _ [38] (by decide +kernel) (by decide +kernel)
set_option maxRecDepth 20000 in
theorem gX3_finger_X3_burns : GoodIn wsX3_finger (va_wsS RX3 148 yX3_burns wsX3_burns) := goodIn_app (goodIn_of _ (by decide +kernel)) ggX3_finger_X3_burns
theorem dX3_finger_0 : decode cX3_finger 0 = .ok (.aload_n 0, 1) := by decide +kernel
theorem dX3_finger_1 : decode cX3_finger 1 = .ok (.iload_n 1, 1) := by decide +kernel
theorem dX3_finger_2 : decode cX3_finger 2 = .ok (.invokevirtual 132, 3) := by decide +kernel
theorem dX3_finger_5 : decode cX3_finger 5 = .ok (.ifCond .ne 6, 3) := by decide +kernel
theorem dX3_finger_8 : decode cX3_finger 8 = .ok (.bipush (-2), 2) := by decide +kernel
theorem dX3_finger_10 : decode cX3_finger 10 = .ok (.ireturn, 1) := by decide +kernel
theorem dX3_finger_11 : decode cX3_finger 11 = .ok (.aload_n 0, 1) := by decide +kernel
theorem dX3_finger_12 : decode cX3_finger 12 = .ok (.iload_n 1, 1) := by decide +kernel
theorem dX3_finger_13 : decode cX3_finger 13 = .ok (.invokevirtual 135, 3) := by decide +kernel
theorem dX3_finger_16 : decode cX3_finger 16 = .ok (.aload_n 0, 1) := by decide +kernel
theorem dX3_finger_17 : decode cX3_finger 17 = .ok (.getfield 20, 3) := by decide +kernel
theorem dX3_finger_20 : decode cX3_finger 20 = .ok (.getfield 145, 3) := by decide +kernel
theorem dX3_finger_23 : decode cX3_finger 23 = .ok (.aload_n 0, 1) := by decide +kernel
theorem dX3_finger_24 : decode cX3_finger 24 = .ok (.getfield 20, 3) := by decide +kernel
theorem dX3_finger_27 : decode cX3_finger 27 = .ok (.getfield 138, 3) := by decide +kernel
theorem dX3_finger_30 : decode cX3_finger 30 = .ok (.invokestatic 148, 3) := by decide +kernel
theorem dX3_finger_33 : decode cX3_finger 33 = .ok (.isub, 1) := by decide +kernel
theorem dX3_finger_34 : decode cX3_finger 34 = .ok (.istore_n 2, 1) := by decide +kernel
theorem dX3_finger_35 : decode cX3_finger 35 = .ok (.iload_n 2, 1) := by decide +kernel
theorem dX3_finger_36 : decode cX3_finger 36 = .ok (.ifCond .gt 5, 3) := by decide +kernel
theorem dX3_finger_39 : decode cX3_finger 39 = .ok (.iconst 0, 1) := by decide +kernel
theorem dX3_finger_40 : decode cX3_finger 40 = .ok (.ireturn, 1) := by decide +kernel
theorem dX3_finger_41 : decode cX3_finger 41 = .ok (.iload_n 2, 1) := by decide +kernel
theorem dX3_finger_42 : decode cX3_finger 42 = .ok (.sipush 999, 3) := by decide +kernel
theorem dX3_finger_45 : decode cX3_finger 45 = .ok (.if_icmp .le 8, 3) := by decide +kernel
theorem dX3_finger_48 : decode cX3_finger 48 = .ok (.bipush (-6), 2) := by decide +kernel
theorem dX3_finger_50 : decode cX3_finger 50 = .ok (.goto 4, 3) := by decide +kernel
theorem dX3_finger_53 : decode cX3_finger 53 = .ok (.iload_n 2, 1) := by decide +kernel
theorem dX3_finger_54 : decode cX3_finger 54 = .ok (.ireturn, 1) := by decide +kernel
set_option maxRecDepth 20000 in
theorem ggX3_drawnOut_X3_isSuit : GoodIn wsX3_drawnOut wsX3_isSuit := goodIn_r _ [6, 1, 7, 8, 9, 5, 10, 43, 44, 45, 46, 47, 48, 49, 50, 51, 52, 53, 54, 55, 56, 57, 58, 59, 60, 61, 62, 63, 64] (by decide +kernel) (by decide +kernel)
set_option maxRecDepth 20000 in
theorem gX3_drawnOut_X3_isSuit : GoodIn wsX3_drawnOut (wsV RX3 89 RX3 yX3_isSuit wsX3_isSuit) := goodIn_app (goodIn_of _ (by decide +kernel)) ggX3_drawnOut_X3_isSuit
set_option maxRecDepth 20000 in
theorem ggX3_drawnOut_X0_floats : GoodIn wsX3_drawnOut wsX0_floats := goodIn_r _ [15, 16, 17, 18, 19, 20, 14, 21, 22, 23, 5, 24, 51, 52, 53, 54, 55, 56, 57, 58, 59, 60, 61, 62, 63, 64] (by decide +kernel) (by decide +kernel)
set_option maxRecDepth 20000 in
theorem gX3_drawnOut_X0_floats : GoodIn wsX3_drawnOut (wsV RX3 105 RX0 yX0_floats wsX0_floats) := goodIn_app (goodIn_of _ (by decide +kernel)) ggX3_drawnOut_X0_floats
set_option maxRecDepth 20000 in
theorem ggX3_drawnOut_X0_end : GoodIn wsX3_drawnOut wsX0_end := goodIn_r _ [28, 29, 30, 31, 32, 14, 33, 34, 35, 5, 36, 37, 38, 39, 40, 41, 42, 51, 52, 53, 54, 55, 56, 57, 58, 59, 60, 61, 62, 63, 64] (by decide +kernel) (by decide +kernel)
set_option maxRecDepth 20000 in
theorem gX3_drawnOut_X0_end : GoodIn wsX3_drawnOut (wsV RX3 117 RX0 yX0_end wsX0_end) := goodIn_app (goodIn_of _ (by decide +kernel)) ggX3_drawnOut_X0_end
theorem dX3_drawnOut_0 : decode cX3_drawnOut 0 = .ok (.aload_n 0, 1) := by decide +kernel
theorem dX3_drawnOut_1 : decode cX3_drawnOut 1 = .ok (.iload_n 1, 1) := by decide +kernel
theorem dX3_drawnOut_2 : decode cX3_drawnOut 2 = .ok (.invokevirtual 89, 3) := by decide +kernel
theorem dX3_drawnOut_5 : decode cX3_drawnOut 5 = .ok (.ifCond .ne 5, 3) := by decide +kernel
theorem dX3_drawnOut_8 : decode cX3_drawnOut 8 = .ok (.iconst (-1), 1) := by decide +kernel
theorem dX3_drawnOut_9 : decode cX3_drawnOut 9 = .ok (.ireturn, 1) := by decide +kernel
theorem dX3_drawnOut_10 : decode cX3_drawnOut 10 = .ok (.aload_n 0, 1) := by decide +kernel
theorem dX3_drawnOut_11 : decode cX3_drawnOut 11 = .ok (.getfield 20, 3) := by decide +kernel
theorem dX3_drawnOut_14 : decode cX3_drawnOut 14 = .ok (.invokevirtual 105, 3) := by decide +kernel
theorem dX3_drawnOut_17 : decode cX3_drawnOut 17 = .ok (.aload_n 0, 1) := by decide +kernel
theorem dX3_drawnOut_18 : decode cX3_drawnOut 18 = .ok (.getfield 20, 3) := by decide +kernel
theorem dX3_drawnOut_21 : decode cX3_drawnOut 21 = .ok (.iload_n 1, 1) := by decide +kernel
theorem dX3_drawnOut_22 : decode cX3_drawnOut 22 = .ok (.invokevirtual 117, 3) := by decide +kernel
theorem dX3_drawnOut_25 : decode cX3_drawnOut 25 = .ok (.isub, 1) := by decide +kernel
theorem dX3_drawnOut_26 : decode cX3_drawnOut 26 = .ok (.istore_n 2, 1) := by decide +kernel
theorem dX3_drawnOut_27 : decode cX3_drawnOut 27 = .ok (.iload_n 2, 1) := by decide +kernel
theorem dX3_drawnOut_28 : decode cX3_drawnOut 28 = .ok (.ifCond .ge 7, 3) := by decide +kernel
theorem dX3_drawnOut_31 : decode cX3_drawnOut 31 = .ok (.iconst 0, 1) := by decide +kernel
theorem dX3_drawnOut_32 : decode cX3_drawnOut 32 = .ok (.goto 6, 3) := by decide +kernel
theorem dX3_drawnOut_35 : decode cX3_drawnOut 35 = .ok (.iload_n 2, 1) := by decide +kernel
theorem dX3_drawnOut_36 : decode cX3_drawnOut 36 = .ok (.iconst 1, 1) := by decide +kernel
theorem dX3_drawnOut_37 : decode cX3_drawnOut 37 = .ok (.iadd, 1) := by decide +kernel
theorem dX3_drawnOut_38 : decode cX3_drawnOut 38 = .ok (.ireturn, 1) := by decide +kernel
set_option maxRecDepth 20000 in
theorem ggX3_stall_X0_floats : GoodIn wsX3_stall wsX0_floats := goodIn_r _ [6, 7, 8, 9, 10, 11, 5, 12, 13, 14, 15, 16, 28, 29, 30, 31, 32, 33, 34, 35, 36, 37, 38, 39, 40, 41] (by decide +kernel) (by decide +kernel)
set_option maxRecDepth 20000 in
theorem gX3_stall_X0_floats : GoodIn wsX3_stall (wsV RX3 105 RX0 yX0_floats wsX0_floats) := goodIn_app (goodIn_of _ (by decide +kernel)) ggX3_stall_X0_floats
set_option maxRecDepth 20000 in
theorem ggX3_stall_X3_within : GoodIn wsX3_stall wsX3_within := goodIn_r _ [19] (by decide +kernel) (by decide +kernel)
set_option maxRecDepth 20000 in
theorem gX3_stall_X3_within : GoodIn wsX3_stall (va_wsS RX3 60 yX3_within wsX3_within) := goodIn_app (goodIn_of _ (by decide +kernel)) ggX3_stall_X3_within
theorem dX3_stall_0 : decode cX3_stall 0 = .ok (.iload_n 1, 1) := by decide +kernel
theorem dX3_stall_1 : decode cX3_stall 1 = .ok (.iconst 0, 1) := by decide +kernel
theorem dX3_stall_2 : decode cX3_stall 2 = .ok (.aload_n 0, 1) := by decide +kernel
theorem dX3_stall_3 : decode cX3_stall 3 = .ok (.getfield 20, 3) := by decide +kernel
theorem dX3_stall_6 : decode cX3_stall 6 = .ok (.invokevirtual 105, 3) := by decide +kernel
theorem dX3_stall_9 : decode cX3_stall 9 = .ok (.invokestatic 60, 3) := by decide +kernel
theorem dX3_stall_12 : decode cX3_stall 12 = .ok (.ifCond .eq 22, 3) := by decide +kernel
theorem dX3_stall_15 : decode cX3_stall 15 = .ok (.iload_n 2, 1) := by decide +kernel
theorem dX3_stall_16 : decode cX3_stall 16 = .ok (.iconst 1, 1) := by decide +kernel
theorem dX3_stall_17 : decode cX3_stall 17 = .ok (.bipush 9, 2) := by decide +kernel
theorem dX3_stall_19 : decode cX3_stall 19 = .ok (.invokestatic 60, 3) := by decide +kernel
theorem dX3_stall_22 : decode cX3_stall 22 = .ok (.ifCond .eq 12, 3) := by decide +kernel
theorem dX3_stall_25 : decode cX3_stall 25 = .ok (.iload_n 3, 1) := by decide +kernel
theorem dX3_stall_26 : decode cX3_stall 26 = .ok (.iconst 0, 1) := by decide +kernel
theorem dX3_stall_27 : decode cX3_stall 27 = .ok (.iconst 1, 1) := by decide +kernel
theorem dX3_stall_28 : decode cX3_stall 28 = .ok (.invokestatic 60, 3) := by decide +kernel
theorem dX3_stall_31 : decode cX3_stall 31 = .ok (.ifCond .ne 6, 3) := by decide +kernel
theorem dX3_stall_34 : decode cX3_stall 34 = .ok (.bipush (-2), 2) := by decide +kernel
theorem dX3_stall_36 : decode cX3_stall 36 = .ok (.ireturn, 1) := by decide +kernel
theorem dX3_stall_37 : decode cX3_stall 37 = .ok (.aload_n 0, 1) := by decide +kernel
theorem dX3_stall_38 : decode cX3_stall 38 = .ok (.getfield 20, 3) := by decide +kernel
theorem dX3_stall_41 : decode cX3_stall 41 = .ok (.invokevirtual 105, 3) := by decide +kernel
theorem dX3_stall_44 : decode cX3_stall 44 = .ok (.iload_n 1, 1) := by decide +kernel
theorem dX3_stall_45 : decode cX3_stall 45 = .ok (.isub, 1) := by decide +kernel
theorem dX3_stall_46 : decode cX3_stall 46 = .ok (.bipush 10, 2) := by decide +kernel
theorem dX3_stall_48 : decode cX3_stall 48 = .ok (.idiv, 1) := by decide +kernel
theorem dX3_stall_49 : decode cX3_stall 49 = .ok (.istore 4, 2) := by decide +kernel
theorem dX3_stall_51 : decode cX3_stall 51 = .ok (.iload_n 2, 1) := by decide +kernel
theorem dX3_stall_52 : decode cX3_stall 52 = .ok (.iconst 1, 1) := by decide +kernel
theorem dX3_stall_53 : decode cX3_stall 53 = .ok (.iadd, 1) := by decide +kernel
theorem dX3_stall_54 : decode cX3_stall 54 = .ok (.istore 5, 2) := by decide +kernel
theorem dX3_stall_56 : decode cX3_stall 56 = .ok (.iload 4, 2) := by decide +kernel
theorem dX3_stall_58 : decode cX3_stall 58 = .ok (.iload 5, 2) := by decide +kernel
theorem dX3_stall_60 : decode cX3_stall 60 = .ok (.irem, 1) := by decide +kernel
theorem dX3_stall_61 : decode cX3_stall 61 = .ok (.istore 6, 2) := by decide +kernel
theorem dX3_stall_63 : decode cX3_stall 63 = .ok (.iload 4, 2) := by decide +kernel
theorem dX3_stall_65 : decode cX3_stall 65 = .ok (.iload 5, 2) := by decide +kernel
theorem dX3_stall_67 : decode cX3_stall 67 = .ok (.idiv, 1) := by decide +kernel
theorem dX3_stall_68 : decode cX3_stall 68 = .ok (.istore 7, 2) := by decide +kernel
theorem dX3_stall_70 : decode cX3_stall 70 = .ok (.iload_n 3, 1) := by decide +kernel
theorem dX3_stall_71 : decode cX3_stall 71 = .ok (.ifCond .ne 16, 3) := by decide +kernel
theorem dX3_stall_74 : decode cX3_stall 74 = .ok (.iload 6, 2) := by decide +kernel
theorem dX3_stall_76 : decode cX3_stall 76 = .ok (.ifCond .ne 8, 3) := by decide +kernel
theorem dX3_stall_79 : decode cX3_stall 79 = .ok (.bipush (-6), 2) := by decide +kernel
theorem dX3_stall_81 : decode cX3_stall 81 = .ok (.goto 5, 3) := by decide +kernel
theorem dX3_stall_84 : decode cX3_stall 84 = .ok (.iload 6, 2) := by decide +kernel
theorem dX3_stall_86 : decode cX3_stall 86 = .ok (.ireturn, 1) := by decide +kernel
theorem dX3_stall_87 : decode cX3_stall 87 = .ok (.iconst 2, 1) := by decide +kernel
theorem dX3_stall_88 : decode cX3_stall 88 = .ok (.iload 7, 2) := by decide +kernel
theorem dX3_stall_90 : decode cX3_stall 90 = .ok (.imul, 1) := by decide +kernel
theorem dX3_stall_91 : decode cX3_stall 91 = .ok (.iload 6, 2) := by decide +kernel
theorem dX3_stall_93 : decode cX3_stall 93 = .ok (.ifCond .ne 7, 3) := by decide +kernel
theorem dX3_stall_96 : decode cX3_stall 96 = .ok (.iconst 1, 1) := by decide +kernel
theorem dX3_stall_97 : decode cX3_stall 97 = .ok (.goto 4, 3) := by decide +kernel
theorem dX3_stall_100 : decode cX3_stall 100 = .ok (.iconst 2, 1) := by decide +kernel
theorem dX3_stall_101 : decode cX3_stall 101 = .ok (.iadd, 1) := by decide +kernel
theorem dX3_stall_102 : decode cX3_stall 102 = .ok (.ireturn, 1) := by decide +kernel
set_option maxRecDepth 20000 in
theorem ggX3_likely_X3_isSuit : GoodIn wsX3_likely wsX3_isSuit := goodIn_r _ [11, 3, 4, 12, 13, 10, 14, 91, 92, 93, 94, 95, 96, 97, 98, 99, 100, 101, 102, 103, 104, 105, 106, 107, 108, 109, 110, 111, 112] (by decide +kernel) (by decide +kernel)
set_option maxRecDepth 20000 in
theorem gX3_likely_X3_isSuit : GoodIn wsX3_likely (wsV RX3 89 RX3 yX3_isSuit wsX3_isSuit) := goodIn_app (goodIn_of _ (by decide +kernel)) ggX3_likely_X3_isSuit
set_option maxRecDepth 20000 in
theorem ggX3_likely_X3_isChance : GoodIn wsX3_likely wsX3_isChance := goodIn_r _ [17, 12, 13, 10, 14] (by decide +kernel) (by decide +kernel)
set_option maxRecDepth 20000 in
theorem gX3_likely_X3_isChance : GoodIn wsX3_likely (va_wsS RX3 153 yX3_isChance wsX3_isChance) := goodIn_app (goodIn_of _ (by decide +kernel)) ggX3_likely_X3_isChance
set_option maxRecDepth 20000 in
theorem ggX3_likely_X3_sitDrawn : GoodIn wsX3_likely wsX3_sitDrawn := goodIn_r _ [21, 5, 3, 22, 23, 24, 25, 26, 27, 28, 29, 30, 31, 32, 33, 34, 35, 10, 36, 37, 38, 39, 40, 41, 42, 43, 44, 45, 46, 47, 48, 49, 50, 51, 52, 53, 54, 55, 56, 57, 58, 59, 60, 61, 62, 63, 64, 65, 66, 67, 91, 92, 93, 94, 95, 96, 97, 98, 99, 100, 101, 102, 103, 104, 105, 106, 107, 108, 109, 110, 111, 112, 113, 114, 115, 116, 117, 118] (by decide +kernel) (by decide +kernel)
set_option maxRecDepth 20000 in
theorem gX3_likely_X3_sitDrawn : GoodIn wsX3_likely (wsV RX3 158 RX3 yX3_sitDrawn wsX3_sitDrawn) := goodIn_app (goodIn_of _ (by decide +kernel)) ggX3_likely_X3_sitDrawn
set_option maxRecDepth 20000 in
theorem ggX3_likely_X0_place : GoodIn wsX3_likely wsX0_place := goodIn_r _ [71, 72, 73, 49, 10, 50, 99, 100, 101, 102, 103, 104, 105, 106, 107, 108, 109, 110, 111, 112] (by decide +kernel) (by decide +kernel)
set_option maxRecDepth 20000 in
theorem gX3_likely_X0_place : GoodIn wsX3_likely (wsV RX3 161 RX0 yX0_place wsX0_place) := goodIn_app (goodIn_of _ (by decide +kernel)) ggX3_likely_X0_place
set_option maxRecDepth 20000 in
theorem ggX3_likely_X3_waysOf : GoodIn wsX3_likely wsX3_waysOf := goodIn_r _ [77, 3, 4, 78, 79, 80, 81, 82, 83, 84, 85, 86, 10, 87, 91, 92, 93, 94, 95, 96, 97, 98, 99, 100, 101, 102, 103, 104, 105, 106, 107, 108, 109, 110, 111, 112] (by decide +kernel) (by decide +kernel)
set_option maxRecDepth 20000 in
theorem gX3_likely_X3_waysOf : GoodIn wsX3_likely (wsV RX3 164 RX3 yX3_waysOf wsX3_waysOf) := goodIn_app (goodIn_of _ (by decide +kernel)) ggX3_likely_X3_waysOf
set_option maxRecDepth 20000 in
theorem ggX3_likely_X3_power : GoodIn wsX3_likely wsX3_power := goodIn_r _ [87] (by decide +kernel) (by decide +kernel)
set_option maxRecDepth 20000 in
theorem gX3_likely_X3_power : GoodIn wsX3_likely (va_wsS RX3 168 yX3_power wsX3_power) := goodIn_app (goodIn_of _ (by decide +kernel)) ggX3_likely_X3_power
set_option maxRecDepth 20000 in
theorem ggX3_likely_X3_lowest : GoodIn wsX3_likely wsX3_lowest := goodIn_r _ [90] (by decide +kernel) (by decide +kernel)
set_option maxRecDepth 20000 in
theorem gX3_likely_X3_lowest : GoodIn wsX3_likely (va_wsS RX3 171 yX3_lowest wsX3_lowest) := goodIn_app (goodIn_of _ (by decide +kernel)) ggX3_likely_X3_lowest
theorem dX3_likely_0 : decode cX3_likely 0 = .ok (.aload_n 0, 1) := by decide +kernel
theorem dX3_likely_1 : decode cX3_likely 1 = .ok (.iload_n 1, 1) := by decide +kernel
theorem dX3_likely_2 : decode cX3_likely 2 = .ok (.invokevirtual 89, 3) := by decide +kernel
theorem dX3_likely_5 : decode cX3_likely 5 = .ok (.ifCond .ne 7, 3) := by decide +kernel
theorem dX3_likely_8 : decode cX3_likely 8 = .ok (.ldc2_w 151, 3) := by decide +kernel
theorem dX3_likely_11 : decode cX3_likely 11 = .ok (.lreturn, 1) := by decide +kernel
theorem dX3_likely_12 : decode cX3_likely 12 = .ok (.iload_n 2, 1) := by decide +kernel
theorem dX3_likely_13 : decode cX3_likely 13 = .ok (.iload_n 3, 1) := by decide +kernel
theorem dX3_likely_14 : decode cX3_likely 14 = .ok (.iload 4, 2) := by decide +kernel
theorem dX3_likely_16 : decode cX3_likely 16 = .ok (.invokestatic 153, 3) := by decide +kernel
theorem dX3_likely_19 : decode cX3_likely 19 = .ok (.ifCond .ne 7, 3) := by decide +kernel
theorem dX3_likely_22 : decode cX3_likely 22 = .ok (.ldc2_w 156, 3) := by decide +kernel
theorem dX3_likely_25 : decode cX3_likely 25 = .ok (.lreturn, 1) := by decide +kernel
theorem dX3_likely_26 : decode cX3_likely 26 = .ok (.lconst 0, 1) := by decide +kernel
theorem dX3_likely_27 : decode cX3_likely 27 = .ok (.lstore 5, 2) := by decide +kernel
theorem dX3_likely_29 : decode cX3_likely 29 = .ok (.iconst 0, 1) := by decide +kernel
theorem dX3_likely_30 : decode cX3_likely 30 = .ok (.istore 7, 2) := by decide +kernel
theorem dX3_likely_32 : decode cX3_likely 32 = .ok (.iload 7, 2) := by decide +kernel
theorem dX3_likely_34 : decode cX3_likely 34 = .ok (.iconst 1, 1) := by decide +kernel
theorem dX3_likely_35 : decode cX3_likely 35 = .ok (.aload_n 0, 1) := by decide +kernel
theorem dX3_likely_36 : decode cX3_likely 36 = .ok (.getfield 20, 3) := by decide +kernel
theorem dX3_likely_39 : decode cX3_likely 39 = .ok (.getfield 80, 3) := by decide +kernel
theorem dX3_likely_42 : decode cX3_likely 42 = .ok (.ishl, 1) := by decide +kernel
theorem dX3_likely_43 : decode cX3_likely 43 = .ok (.if_icmp .ge 46, 3) := by decide +kernel
theorem dX3_likely_46 : decode cX3_likely 46 = .ok (.aload_n 0, 1) := by decide +kernel
theorem dX3_likely_47 : decode cX3_likely 47 = .ok (.iload 7, 2) := by decide +kernel
theorem dX3_likely_49 : decode cX3_likely 49 = .ok (.iload_n 2, 1) := by decide +kernel
theorem dX3_likely_50 : decode cX3_likely 50 = .ok (.invokevirtual 158, 3) := by decide +kernel
theorem dX3_likely_53 : decode cX3_likely 53 = .ok (.aload_n 0, 1) := by decide +kernel
theorem dX3_likely_54 : decode cX3_likely 54 = .ok (.getfield 20, 3) := by decide +kernel
theorem dX3_likely_57 : decode cX3_likely 57 = .ok (.iload_n 1, 1) := by decide +kernel
theorem dX3_likely_58 : decode cX3_likely 58 = .ok (.invokevirtual 161, 3) := by decide +kernel
theorem dX3_likely_61 : decode cX3_likely 61 = .ok (.aload_n 0, 1) := by decide +kernel
theorem dX3_likely_62 : decode cX3_likely 62 = .ok (.getfield 31, 3) := by decide +kernel
theorem dX3_likely_65 : decode cX3_likely 65 = .ok (.getfield 111, 3) := by decide +kernel
theorem dX3_likely_68 : decode cX3_likely 68 = .ok (.if_icmp .ge 15, 3) := by decide +kernel
theorem dX3_likely_71 : decode cX3_likely 71 = .ok (.lload 5, 2) := by decide +kernel
theorem dX3_likely_73 : decode cX3_likely 73 = .ok (.aload_n 0, 1) := by decide +kernel
theorem dX3_likely_74 : decode cX3_likely 74 = .ok (.iload 7, 2) := by decide +kernel
theorem dX3_likely_76 : decode cX3_likely 76 = .ok (.iload_n 3, 1) := by decide +kernel
theorem dX3_likely_77 : decode cX3_likely 77 = .ok (.invokevirtual 164, 3) := by decide +kernel
theorem dX3_likely_80 : decode cX3_likely 80 = .ok (.ladd, 1) := by decide +kernel
theorem dX3_likely_81 : decode cX3_likely 81 = .ok (.lstore 5, 2) := by decide +kernel
theorem dX3_likely_83 : decode cX3_likely 83 = .ok (.iinc 7 1, 3) := by decide +kernel
theorem dX3_likely_86 : decode cX3_likely 86 = .ok (.goto (-54), 3) := by decide +kernel
theorem dX3_likely_89 : decode cX3_likely 89 = .ok (.lload 5, 2) := by decide +kernel
theorem dX3_likely_91 : decode cX3_likely 91 = .ok (.bipush 10, 2) := by decide +kernel
theorem dX3_likely_93 : decode cX3_likely 93 = .ok (.aload_n 0, 1) := by decide +kernel
theorem dX3_likely_94 : decode cX3_likely 94 = .ok (.getfield 20, 3) := by decide +kernel
theorem dX3_likely_97 : decode cX3_likely 97 = .ok (.getfield 80, 3) := by decide +kernel
theorem dX3_likely_100 : decode cX3_likely 100 = .ok (.invokestatic 168, 3) := by decide +kernel
theorem dX3_likely_103 : decode cX3_likely 103 = .ok (.iload 4, 2) := by decide +kernel
theorem dX3_likely_105 : decode cX3_likely 105 = .ok (.invokestatic 171, 3) := by decide +kernel
theorem dX3_likely_108 : decode cX3_likely 108 = .ok (.lreturn, 1) := by decide +kernel
set_option maxRecDepth 20000 in
theorem ggX3_mean_X3_isSide : GoodIn wsX3_mean wsX3_isSide := goodIn_r _ [8, 9, 10, 7, 11] (by decide +kernel) (by decide +kernel)
set_option maxRecDepth 20000 in
theorem gX3_mean_X3_isSide : GoodIn wsX3_mean (va_wsS RX3 123 yX3_isSide wsX3_isSide) := goodIn_app (goodIn_of _ (by decide +kernel)) ggX3_mean_X3_isSide
set_option maxRecDepth 20000 in
theorem ggX3_mean_X3_isChance : GoodIn wsX3_mean wsX3_isChance := goodIn_r _ [14, 9, 10, 7, 11] (by decide +kernel) (by decide +kernel)
set_option maxRecDepth 20000 in
theorem gX3_mean_X3_isChance : GoodIn wsX3_mean (va_wsS RX3 153 yX3_isChance wsX3_isChance) := goodIn_app (goodIn_of _ (by decide +kernel)) ggX3_mean_X3_isChance
set_option maxRecDepth 20000 in
theorem ggX3_mean_X3_sitDrawn : GoodIn wsX3_mean wsX3_sitDrawn := goodIn_r _ [18, 4, 2, 19, 20, 21, 22, 23, 24, 25, 26, 27, 28, 29, 30, 31, 32, 7, 33, 34, 35, 36, 37, 38, 39, 40, 41, 42, 43, 44, 45, 46, 47, 48, 49, 50, 51, 52, 53, 54, 55, 56, 57, 58, 59, 60, 61, 62, 63, 64, 86, 87, 88, 89, 90, 91, 92, 93, 94, 95, 96, 97, 98, 99, 100, 101, 102, 103, 104, 105, 106, 107, 108, 109, 110, 111, 112, 113] (by decide +kernel) (by decide +kernel)
set_option maxRecDepth 20000 in
theorem gX3_mean_X3_sitDrawn : GoodIn wsX3_mean (wsV RX3 158 RX3 yX3_sitDrawn wsX3_sitDrawn) := goodIn_app (goodIn_of _ (by decide +kernel)) ggX3_mean_X3_sitDrawn
set_option maxRecDepth 20000 in
theorem ggX3_mean_X3_waysOf : GoodIn wsX3_mean wsX3_waysOf := goodIn_r _ [68, 2, 3, 69, 70, 71, 72, 73, 74, 75, 76, 77, 7, 78, 86, 87, 88, 89, 90, 91, 92, 93, 94, 95, 96, 97, 98, 99, 100, 101, 102, 103, 104, 105, 106, 107] (by decide +kernel) (by decide +kernel)
set_option maxRecDepth 20000 in
theorem gX3_mean_X3_waysOf : GoodIn wsX3_mean (wsV RX3 164 RX3 yX3_waysOf wsX3_waysOf) := goodIn_app (goodIn_of _ (by decide +kernel)) ggX3_mean_X3_waysOf
set_option maxRecDepth 20000 in
theorem ggX3_mean_X2_has : GoodIn wsX3_mean wsX2_has := goodIn_r _ [82, 41, 42, 43, 44, 108, 109, 110, 111, 112, 113] (by decide +kernel) (by decide +kernel)
set_option maxRecDepth 20000 in
theorem gX3_mean_X2_has : GoodIn wsX3_mean (wsV RX3 126 RX2 yX2_has wsX2_has) := goodIn_app (goodIn_of _ (by decide +kernel)) ggX3_mean_X2_has
set_option maxRecDepth 20000 in
theorem ggX3_mean_X3_power : GoodIn wsX3_mean wsX3_power := goodIn_r _ [78] (by decide +kernel) (by decide +kernel)
set_option maxRecDepth 20000 in
theorem gX3_mean_X3_power : GoodIn wsX3_mean (va_wsS RX3 168 yX3_power wsX3_power) := goodIn_app (goodIn_of _ (by decide +kernel)) ggX3_mean_X3_power
set_option maxRecDepth 20000 in
theorem ggX3_mean_X3_lowest : GoodIn wsX3_mean wsX3_lowest := goodIn_r _ [85] (by decide +kernel) (by decide +kernel)
set_option maxRecDepth 20000 in
theorem gX3_mean_X3_lowest : GoodIn wsX3_mean (va_wsS RX3 171 yX3_lowest wsX3_lowest) := goodIn_app (goodIn_of _ (by decide +kernel)) ggX3_mean_X3_lowest
theorem dX3_mean_0 : decode cX3_mean 0 = .ok (.iload_n 1, 1) := by decide +kernel
theorem dX3_mean_1 : decode cX3_mean 1 = .ok (.invokestatic 123, 3) := by decide +kernel
theorem dX3_mean_4 : decode cX3_mean 4 = .ok (.ifCond .eq 13, 3) := by decide +kernel
theorem dX3_mean_7 : decode cX3_mean 7 = .ok (.iload_n 2, 1) := by decide +kernel
theorem dX3_mean_8 : decode cX3_mean 8 = .ok (.iload_n 3, 1) := by decide +kernel
theorem dX3_mean_9 : decode cX3_mean 9 = .ok (.iload 4, 2) := by decide +kernel
theorem dX3_mean_11 : decode cX3_mean 11 = .ok (.invokestatic 153, 3) := by decide +kernel
theorem dX3_mean_14 : decode cX3_mean 14 = .ok (.ifCond .ne 7, 3) := by decide +kernel
theorem dX3_mean_17 : decode cX3_mean 17 = .ok (.ldc2_w 156, 3) := by decide +kernel
theorem dX3_mean_20 : decode cX3_mean 20 = .ok (.lreturn, 1) := by decide +kernel
theorem dX3_mean_21 : decode cX3_mean 21 = .ok (.lconst 0, 1) := by decide +kernel
theorem dX3_mean_22 : decode cX3_mean 22 = .ok (.lstore 5, 2) := by decide +kernel
theorem dX3_mean_24 : decode cX3_mean 24 = .ok (.iconst 0, 1) := by decide +kernel
theorem dX3_mean_25 : decode cX3_mean 25 = .ok (.istore 7, 2) := by decide +kernel
theorem dX3_mean_27 : decode cX3_mean 27 = .ok (.iload 7, 2) := by decide +kernel
theorem dX3_mean_29 : decode cX3_mean 29 = .ok (.iconst 1, 1) := by decide +kernel
theorem dX3_mean_30 : decode cX3_mean 30 = .ok (.aload_n 0, 1) := by decide +kernel
theorem dX3_mean_31 : decode cX3_mean 31 = .ok (.getfield 20, 3) := by decide +kernel
theorem dX3_mean_34 : decode cX3_mean 34 = .ok (.getfield 80, 3) := by decide +kernel
theorem dX3_mean_37 : decode cX3_mean 37 = .ok (.ishl, 1) := by decide +kernel
theorem dX3_mean_38 : decode cX3_mean 38 = .ok (.if_icmp .ge 38, 3) := by decide +kernel
theorem dX3_mean_41 : decode cX3_mean 41 = .ok (.aload_n 0, 1) := by decide +kernel
theorem dX3_mean_42 : decode cX3_mean 42 = .ok (.iload 7, 2) := by decide +kernel
theorem dX3_mean_44 : decode cX3_mean 44 = .ok (.iload_n 2, 1) := by decide +kernel
theorem dX3_mean_45 : decode cX3_mean 45 = .ok (.invokevirtual 158, 3) := by decide +kernel
theorem dX3_mean_48 : decode cX3_mean 48 = .ok (.lload 5, 2) := by decide +kernel
theorem dX3_mean_50 : decode cX3_mean 50 = .ok (.aload_n 0, 1) := by decide +kernel
theorem dX3_mean_51 : decode cX3_mean 51 = .ok (.iload 7, 2) := by decide +kernel
theorem dX3_mean_53 : decode cX3_mean 53 = .ok (.iload_n 3, 1) := by decide +kernel
theorem dX3_mean_54 : decode cX3_mean 54 = .ok (.invokevirtual 164, 3) := by decide +kernel
theorem dX3_mean_57 : decode cX3_mean 57 = .ok (.aload_n 0, 1) := by decide +kernel
theorem dX3_mean_58 : decode cX3_mean 58 = .ok (.getfield 31, 3) := by decide +kernel
theorem dX3_mean_61 : decode cX3_mean 61 = .ok (.iload_n 1, 1) := by decide +kernel
theorem dX3_mean_62 : decode cX3_mean 62 = .ok (.invokevirtual 126, 3) := by decide +kernel
theorem dX3_mean_65 : decode cX3_mean 65 = .ok (.i2l, 1) := by decide +kernel
theorem dX3_mean_66 : decode cX3_mean 66 = .ok (.lmul, 1) := by decide +kernel
theorem dX3_mean_67 : decode cX3_mean 67 = .ok (.ladd, 1) := by decide +kernel
theorem dX3_mean_68 : decode cX3_mean 68 = .ok (.lstore 5, 2) := by decide +kernel
theorem dX3_mean_70 : decode cX3_mean 70 = .ok (.iinc 7 1, 3) := by decide +kernel
theorem dX3_mean_73 : decode cX3_mean 73 = .ok (.goto (-46), 3) := by decide +kernel
theorem dX3_mean_76 : decode cX3_mean 76 = .ok (.lload 5, 2) := by decide +kernel
theorem dX3_mean_78 : decode cX3_mean 78 = .ok (.bipush 10, 2) := by decide +kernel
theorem dX3_mean_80 : decode cX3_mean 80 = .ok (.aload_n 0, 1) := by decide +kernel
theorem dX3_mean_81 : decode cX3_mean 81 = .ok (.getfield 20, 3) := by decide +kernel
theorem dX3_mean_84 : decode cX3_mean 84 = .ok (.getfield 80, 3) := by decide +kernel
theorem dX3_mean_87 : decode cX3_mean 87 = .ok (.invokestatic 168, 3) := by decide +kernel
theorem dX3_mean_90 : decode cX3_mean 90 = .ok (.iload 4, 2) := by decide +kernel
theorem dX3_mean_92 : decode cX3_mean 92 = .ok (.invokestatic 171, 3) := by decide +kernel
theorem dX3_mean_95 : decode cX3_mean 95 = .ok (.lreturn, 1) := by decide +kernel
set_option maxRecDepth 20000 in
theorem ggX3_term_X3_isSide : GoodIn wsX3_term wsX3_isSide := goodIn_r _ [10, 11, 12, 9, 13] (by decide +kernel) (by decide +kernel)
set_option maxRecDepth 20000 in
theorem gX3_term_X3_isSide : GoodIn wsX3_term (va_wsS RX3 123 yX3_isSide wsX3_isSide) := goodIn_app (goodIn_of _ (by decide +kernel)) ggX3_term_X3_isSide
set_option maxRecDepth 20000 in
theorem ggX3_term_X0_floats : GoodIn wsX3_term wsX0_floats := goodIn_r _ [18, 19, 20, 21, 22, 23, 17, 24, 25, 26, 9, 27, 71, 72, 73, 74, 75, 76, 77, 78, 79, 80, 81, 82, 83, 84] (by decide +kernel) (by decide +kernel)
set_option maxRecDepth 20000 in
theorem gX3_term_X0_floats : GoodIn wsX3_term (wsV RX3 105 RX0 yX0_floats wsX0_floats) := goodIn_app (goodIn_of _ (by decide +kernel)) ggX3_term_X0_floats
set_option maxRecDepth 20000 in
theorem ggX3_term_X2_plead : GoodIn wsX3_term wsX2_plead := goodIn_r _ [32, 33, 34, 35, 36, 37, 38, 39, 40, 9, 41, 42, 43, 44, 17, 45, 46, 47, 48, 49, 50, 31, 51, 52, 53, 54, 55, 56, 57, 58, 85, 86, 87, 88, 89, 90, 71, 72, 73, 74, 75, 76, 77, 78, 79, 80, 81, 82, 83, 84] (by decide +kernel) (by decide +kernel)
set_option maxRecDepth 20000 in
theorem gX3_term_X2_plead : GoodIn wsX3_term (wsV RX3 175 RX2 yX2_plead wsX2_plead) := goodIn_app (goodIn_of _ (by decide +kernel)) ggX3_term_X2_plead
set_option maxRecDepth 20000 in
theorem ggX3_term_X2_has : GoodIn wsX3_term wsX2_has := goodIn_r _ [62, 35, 36, 37, 38, 85, 86, 87, 88, 89, 90] (by decide +kernel) (by decide +kernel)
set_option maxRecDepth 20000 in
theorem gX3_term_X2_has : GoodIn wsX3_term (wsV RX3 126 RX2 yX2_has wsX2_has) := goodIn_app (goodIn_of _ (by decide +kernel)) ggX3_term_X2_has
theorem dX3_term_0 : decode cX3_term 0 = .ok (.iload_n 1, 1) := by decide +kernel
theorem dX3_term_1 : decode cX3_term 1 = .ok (.iconst (-1), 1) := by decide +kernel
theorem dX3_term_2 : decode cX3_term 2 = .ok (.if_icmp .eq 13, 3) := by decide +kernel
theorem dX3_term_5 : decode cX3_term 5 = .ok (.iload_n 1, 1) := by decide +kernel
theorem dX3_term_6 : decode cX3_term 6 = .ok (.invokestatic 123, 3) := by decide +kernel
theorem dX3_term_9 : decode cX3_term 9 = .ok (.ifCond .ne 6, 3) := by decide +kernel
theorem dX3_term_12 : decode cX3_term 12 = .ok (.bipush (-2), 2) := by decide +kernel
theorem dX3_term_14 : decode cX3_term 14 = .ok (.ireturn, 1) := by decide +kernel
theorem dX3_term_15 : decode cX3_term 15 = .ok (.iconst 0, 1) := by decide +kernel
theorem dX3_term_16 : decode cX3_term 16 = .ok (.istore_n 2, 1) := by decide +kernel
theorem dX3_term_17 : decode cX3_term 17 = .ok (.iconst 0, 1) := by decide +kernel
theorem dX3_term_18 : decode cX3_term 18 = .ok (.istore_n 3, 1) := by decide +kernel
theorem dX3_term_19 : decode cX3_term 19 = .ok (.iconst 0, 1) := by decide +kernel
theorem dX3_term_20 : decode cX3_term 20 = .ok (.istore 4, 2) := by decide +kernel
theorem dX3_term_22 : decode cX3_term 22 = .ok (.iconst 0, 1) := by decide +kernel
theorem dX3_term_23 : decode cX3_term 23 = .ok (.istore 5, 2) := by decide +kernel
theorem dX3_term_25 : decode cX3_term 25 = .ok (.iload 5, 2) := by decide +kernel
theorem dX3_term_27 : decode cX3_term 27 = .ok (.bipush 6, 2) := by decide +kernel
theorem dX3_term_29 : decode cX3_term 29 = .ok (.if_icmp .ge 94, 3) := by decide +kernel
theorem dX3_term_32 : decode cX3_term 32 = .ok (.iload 4, 2) := by decide +kernel
theorem dX3_term_34 : decode cX3_term 34 = .ok (.aload_n 0, 1) := by decide +kernel
theorem dX3_term_35 : decode cX3_term 35 = .ok (.getfield 20, 3) := by decide +kernel
theorem dX3_term_38 : decode cX3_term 38 = .ok (.getfield 80, 3) := by decide +kernel
theorem dX3_term_41 : decode cX3_term 41 = .ok (.if_icmp .ge 82, 3) := by decide +kernel
theorem dX3_term_44 : decode cX3_term 44 = .ok (.aload_n 0, 1) := by decide +kernel
theorem dX3_term_45 : decode cX3_term 45 = .ok (.getfield 31, 3) := by decide +kernel
theorem dX3_term_48 : decode cX3_term 48 = .ok (.aload_n 0, 1) := by decide +kernel
theorem dX3_term_49 : decode cX3_term 49 = .ok (.getfield 20, 3) := by decide +kernel
theorem dX3_term_52 : decode cX3_term 52 = .ok (.aload_n 0, 1) := by decide +kernel
theorem dX3_term_53 : decode cX3_term 53 = .ok (.getfield 20, 3) := by decide +kernel
theorem dX3_term_56 : decode cX3_term 56 = .ok (.getfield 83, 3) := by decide +kernel
theorem dX3_term_59 : decode cX3_term 59 = .ok (.iload 4, 2) := by decide +kernel
theorem dX3_term_61 : decode cX3_term 61 = .ok (.aload_n 0, 1) := by decide +kernel
theorem dX3_term_62 : decode cX3_term 62 = .ok (.getfield 20, 3) := by decide +kernel
theorem dX3_term_65 : decode cX3_term 65 = .ok (.invokevirtual 105, 3) := by decide +kernel
theorem dX3_term_68 : decode cX3_term 68 = .ok (.iconst 0, 1) := by decide +kernel
theorem dX3_term_69 : decode cX3_term 69 = .ok (.iconst 0, 1) := by decide +kernel
theorem dX3_term_70 : decode cX3_term 70 = .ok (.invokevirtual 175, 3) := by decide +kernel
theorem dX3_term_73 : decode cX3_term 73 = .ok (.iload 4, 2) := by decide +kernel
theorem dX3_term_75 : decode cX3_term 75 = .ok (.aload_n 0, 1) := by decide +kernel
theorem dX3_term_76 : decode cX3_term 76 = .ok (.getfield 31, 3) := by decide +kernel
theorem dX3_term_79 : decode cX3_term 79 = .ok (.getfield 111, 3) := by decide +kernel
theorem dX3_term_82 : decode cX3_term 82 = .ok (.aload_n 0, 1) := by decide +kernel
theorem dX3_term_83 : decode cX3_term 83 = .ok (.getfield 31, 3) := by decide +kernel
theorem dX3_term_86 : decode cX3_term 86 = .ok (.getfield 114, 3) := by decide +kernel
theorem dX3_term_89 : decode cX3_term 89 = .ok (.bipush (-6), 2) := by decide +kernel
theorem dX3_term_91 : decode cX3_term 91 = .ok (.if_icmp .ne 7, 3) := by decide +kernel
theorem dX3_term_94 : decode cX3_term 94 = .ok (.iconst 0, 1) := by decide +kernel
theorem dX3_term_95 : decode cX3_term 95 = .ok (.goto 4, 3) := by decide +kernel
theorem dX3_term_98 : decode cX3_term 98 = .ok (.iconst 1, 1) := by decide +kernel
theorem dX3_term_99 : decode cX3_term 99 = .ok (.iadd, 1) := by decide +kernel
theorem dX3_term_100 : decode cX3_term 100 = .ok (.iadd, 1) := by decide +kernel
theorem dX3_term_101 : decode cX3_term 101 = .ok (.istore 4, 2) := by decide +kernel
theorem dX3_term_103 : decode cX3_term 103 = .ok (.iinc 2 1, 3) := by decide +kernel
theorem dX3_term_106 : decode cX3_term 106 = .ok (.iload_n 3, 1) := by decide +kernel
theorem dX3_term_107 : decode cX3_term 107 = .ok (.aload_n 0, 1) := by decide +kernel
theorem dX3_term_108 : decode cX3_term 108 = .ok (.getfield 31, 3) := by decide +kernel
theorem dX3_term_111 : decode cX3_term 111 = .ok (.iload_n 1, 1) := by decide +kernel
theorem dX3_term_112 : decode cX3_term 112 = .ok (.invokevirtual 126, 3) := by decide +kernel
theorem dX3_term_115 : decode cX3_term 115 = .ok (.iadd, 1) := by decide +kernel
theorem dX3_term_116 : decode cX3_term 116 = .ok (.istore_n 3, 1) := by decide +kernel
theorem dX3_term_117 : decode cX3_term 117 = .ok (.iinc 5 1, 3) := by decide +kernel
theorem dX3_term_120 : decode cX3_term 120 = .ok (.goto (-95), 3) := by decide +kernel
theorem dX3_term_123 : decode cX3_term 123 = .ok (.iload_n 1, 1) := by decide +kernel
theorem dX3_term_124 : decode cX3_term 124 = .ok (.iconst (-1), 1) := by decide +kernel
theorem dX3_term_125 : decode cX3_term 125 = .ok (.if_icmp .ne 7, 3) := by decide +kernel
theorem dX3_term_128 : decode cX3_term 128 = .ok (.iload_n 2, 1) := by decide +kernel
theorem dX3_term_129 : decode cX3_term 129 = .ok (.goto 4, 3) := by decide +kernel
theorem dX3_term_132 : decode cX3_term 132 = .ok (.iload_n 3, 1) := by decide +kernel
theorem dX3_term_133 : decode cX3_term 133 = .ok (.ireturn, 1) := by decide +kernel
set_option maxRecDepth 20000 in
theorem ggX3_seen_X3_within : GoodIn wsX3_seen wsX3_within := goodIn_r _ [9] (by decide +kernel) (by decide +kernel)
set_option maxRecDepth 20000 in
theorem gX3_seen_X3_within : GoodIn wsX3_seen (va_wsS RX3 60 yX3_within wsX3_within) := goodIn_app (goodIn_of _ (by decide +kernel)) ggX3_seen_X3_within
set_option maxRecDepth 20000 in
theorem ggX3_seen_X3_put : GoodIn wsX3_seen wsX3_put := goodIn_r _ [12] (by decide +kernel) (by decide +kernel)
set_option maxRecDepth 20000 in
theorem gX3_seen_X3_put : GoodIn wsX3_seen (va_wsS RX3 64 yX3_put wsX3_put) := goodIn_app (goodIn_of _ (by decide +kernel)) ggX3_seen_X3_put
theorem dX3_seen_0 : decode cX3_seen 0 = .ok (.iload_n 1, 1) := by decide +kernel
theorem dX3_seen_1 : decode cX3_seen 1 = .ok (.iconst 1, 1) := by decide +kernel
theorem dX3_seen_2 : decode cX3_seen 2 = .ok (.bipush 99, 2) := by decide +kernel
theorem dX3_seen_4 : decode cX3_seen 4 = .ok (.invokestatic 60, 3) := by decide +kernel
theorem dX3_seen_7 : decode cX3_seen 7 = .ok (.ifCond .eq 18, 3) := by decide +kernel
theorem dX3_seen_10 : decode cX3_seen 10 = .ok (.iload_n 2, 1) := by decide +kernel
theorem dX3_seen_11 : decode cX3_seen 11 = .ok (.iconst 0, 1) := by decide +kernel
theorem dX3_seen_12 : decode cX3_seen 12 = .ok (.aload_n 0, 1) := by decide +kernel
theorem dX3_seen_13 : decode cX3_seen 13 = .ok (.getfield 20, 3) := by decide +kernel
theorem dX3_seen_16 : decode cX3_seen 16 = .ok (.getfield 80, 3) := by decide +kernel
theorem dX3_seen_19 : decode cX3_seen 19 = .ok (.invokestatic 60, 3) := by decide +kernel
theorem dX3_seen_22 : decode cX3_seen 22 = .ok (.ifCond .ne 6, 3) := by decide +kernel
theorem dX3_seen_25 : decode cX3_seen 25 = .ok (.bipush (-2), 2) := by decide +kernel
theorem dX3_seen_27 : decode cX3_seen 27 = .ok (.ireturn, 1) := by decide +kernel
theorem dX3_seen_28 : decode cX3_seen 28 = .ok (.aload_n 0, 1) := by decide +kernel
theorem dX3_seen_29 : decode cX3_seen 29 = .ok (.getfield 20, 3) := by decide +kernel
theorem dX3_seen_32 : decode cX3_seen 32 = .ok (.getfield 179, 3) := by decide +kernel
theorem dX3_seen_35 : decode cX3_seen 35 = .ok (.bipush 6, 2) := by decide +kernel
theorem dX3_seen_37 : decode cX3_seen 37 = .ok (.if_icmp .lt 6, 3) := by decide +kernel
theorem dX3_seen_40 : decode cX3_seen 40 = .ok (.bipush (-4), 2) := by decide +kernel
theorem dX3_seen_42 : decode cX3_seen 42 = .ok (.ireturn, 1) := by decide +kernel
theorem dX3_seen_43 : decode cX3_seen 43 = .ok (.aload_n 0, 1) := by decide +kernel
theorem dX3_seen_44 : decode cX3_seen 44 = .ok (.getfield 20, 3) := by decide +kernel
theorem dX3_seen_47 : decode cX3_seen 47 = .ok (.getfield 182, 3) := by decide +kernel
theorem dX3_seen_50 : decode cX3_seen 50 = .ok (.aload_n 0, 1) := by decide +kernel
theorem dX3_seen_51 : decode cX3_seen 51 = .ok (.getfield 20, 3) := by decide +kernel
theorem dX3_seen_54 : decode cX3_seen 54 = .ok (.getfield 179, 3) := by decide +kernel
theorem dX3_seen_57 : decode cX3_seen 57 = .ok (.iload_n 1, 1) := by decide +kernel
theorem dX3_seen_58 : decode cX3_seen 58 = .ok (.invokestatic 64, 3) := by decide +kernel
theorem dX3_seen_61 : decode cX3_seen 61 = .ok (.aload_n 0, 1) := by decide +kernel
theorem dX3_seen_62 : decode cX3_seen 62 = .ok (.getfield 20, 3) := by decide +kernel
theorem dX3_seen_65 : decode cX3_seen 65 = .ok (.getfield 185, 3) := by decide +kernel
theorem dX3_seen_68 : decode cX3_seen 68 = .ok (.aload_n 0, 1) := by decide +kernel
theorem dX3_seen_69 : decode cX3_seen 69 = .ok (.getfield 20, 3) := by decide +kernel
theorem dX3_seen_72 : decode cX3_seen 72 = .ok (.getfield 179, 3) := by decide +kernel
theorem dX3_seen_75 : decode cX3_seen 75 = .ok (.iload_n 2, 1) := by decide +kernel
theorem dX3_seen_76 : decode cX3_seen 76 = .ok (.invokestatic 64, 3) := by decide +kernel
theorem dX3_seen_79 : decode cX3_seen 79 = .ok (.aload_n 0, 1) := by decide +kernel
theorem dX3_seen_80 : decode cX3_seen 80 = .ok (.getfield 20, 3) := by decide +kernel
theorem dX3_seen_83 : decode cX3_seen 83 = .ok (.dup, 1) := by decide +kernel
theorem dX3_seen_84 : decode cX3_seen 84 = .ok (.getfield 179, 3) := by decide +kernel
theorem dX3_seen_87 : decode cX3_seen 87 = .ok (.iconst 1, 1) := by decide +kernel
theorem dX3_seen_88 : decode cX3_seen 88 = .ok (.iadd, 1) := by decide +kernel
theorem dX3_seen_89 : decode cX3_seen 89 = .ok (.putfield 179, 3) := by decide +kernel
theorem dX3_seen_92 : decode cX3_seen 92 = .ok (.aload_n 0, 1) := by decide +kernel
theorem dX3_seen_93 : decode cX3_seen 93 = .ok (.getfield 20, 3) := by decide +kernel
theorem dX3_seen_96 : decode cX3_seen 96 = .ok (.getfield 179, 3) := by decide +kernel
theorem dX3_seen_99 : decode cX3_seen 99 = .ok (.ireturn, 1) := by decide +kernel
theorem dX3_forget_0 : decode cX3_forget 0 = .ok (.aload_n 0, 1) := by decide +kernel
theorem dX3_forget_1 : decode cX3_forget 1 = .ok (.getfield 20, 3) := by decide +kernel
theorem dX3_forget_4 : decode cX3_forget 4 = .ok (.getfield 179, 3) := by decide +kernel
theorem dX3_forget_7 : decode cX3_forget 7 = .ok (.istore_n 1, 1) := by decide +kernel
theorem dX3_forget_8 : decode cX3_forget 8 = .ok (.aload_n 0, 1) := by decide +kernel
theorem dX3_forget_9 : decode cX3_forget 9 = .ok (.getfield 20, 3) := by decide +kernel
theorem dX3_forget_12 : decode cX3_forget 12 = .ok (.iconst 0, 1) := by decide +kernel
theorem dX3_forget_13 : decode cX3_forget 13 = .ok (.putfield 179, 3) := by decide +kernel
theorem dX3_forget_16 : decode cX3_forget 16 = .ok (.iload_n 1, 1) := by decide +kernel
theorem dX3_forget_17 : decode cX3_forget 17 = .ok (.ireturn, 1) := by decide +kernel
set_option maxRecDepth 20000 in
theorem ggX3_fits_X3_sightsHold : GoodIn wsX3_fits wsX3_sightsHold := goodIn_r _ [5, 6, 7, 8, 9, 10, 11, 12, 13, 14, 4, 15, 16, 17, 18, 19, 20, 21, 22, 23, 24, 25, 26, 27, 28, 29, 30, 31, 32, 33, 34, 35, 36, 37, 38, 39, 40, 41, 42, 43, 44, 45, 46, 47, 48, 49, 50, 51, 52, 53, 54, 55, 56, 57, 58, 59, 60, 61, 62, 63, 64, 65, 66, 67, 68, 69, 70, 71, 72, 73, 74, 75, 76, 77, 78, 79, 80] (by decide +kernel) (by decide +kernel)
set_option maxRecDepth 20000 in
theorem gX3_fits_X3_sightsHold : GoodIn wsX3_fits (wsV RX3 188 RX3 yX3_sightsHold wsX3_sightsHold) := goodIn_app (goodIn_of _ (by decide +kernel)) ggX3_fits_X3_sightsHold
theorem dX3_fits_0 : decode cX3_fits 0 = .ok (.iconst 0, 1) := by decide +kernel
theorem dX3_fits_1 : decode cX3_fits 1 = .ok (.istore_n 1, 1) := by decide +kernel
theorem dX3_fits_2 : decode cX3_fits 2 = .ok (.iconst 1, 1) := by decide +kernel
theorem dX3_fits_3 : decode cX3_fits 3 = .ok (.istore_n 2, 1) := by decide +kernel
theorem dX3_fits_4 : decode cX3_fits 4 = .ok (.iload_n 2, 1) := by decide +kernel
theorem dX3_fits_5 : decode cX3_fits 5 = .ok (.bipush 9, 2) := by decide +kernel
theorem dX3_fits_7 : decode cX3_fits 7 = .ok (.if_icmp .gt 23, 3) := by decide +kernel
theorem dX3_fits_10 : decode cX3_fits 10 = .ok (.aload_n 0, 1) := by decide +kernel
theorem dX3_fits_11 : decode cX3_fits 11 = .ok (.iload_n 2, 1) := by decide +kernel
theorem dX3_fits_12 : decode cX3_fits 12 = .ok (.invokevirtual 188, 3) := by decide +kernel
theorem dX3_fits_15 : decode cX3_fits 15 = .ok (.ifCond .eq 9, 3) := by decide +kernel
theorem dX3_fits_18 : decode cX3_fits 18 = .ok (.iload_n 1, 1) := by decide +kernel
theorem dX3_fits_19 : decode cX3_fits 19 = .ok (.iconst 1, 1) := by decide +kernel
theorem dX3_fits_20 : decode cX3_fits 20 = .ok (.iload_n 2, 1) := by decide +kernel
theorem dX3_fits_21 : decode cX3_fits 21 = .ok (.ishl, 1) := by decide +kernel
theorem dX3_fits_22 : decode cX3_fits 22 = .ok (.ior, 1) := by decide +kernel
theorem dX3_fits_23 : decode cX3_fits 23 = .ok (.istore_n 1, 1) := by decide +kernel
theorem dX3_fits_24 : decode cX3_fits 24 = .ok (.iinc 2 1, 3) := by decide +kernel
theorem dX3_fits_27 : decode cX3_fits 27 = .ok (.goto (-23), 3) := by decide +kernel
theorem dX3_fits_30 : decode cX3_fits 30 = .ok (.iload_n 1, 1) := by decide +kernel
theorem dX3_fits_31 : decode cX3_fits 31 = .ok (.ireturn, 1) := by decide +kernel
set_option maxRecDepth 20000 in
theorem ggX3_year_X3_within : GoodIn wsX3_year wsX3_within := goodIn_r _ [10] (by decide +kernel) (by decide +kernel)
set_option maxRecDepth 20000 in
theorem gX3_year_X3_within : GoodIn wsX3_year (va_wsS RX3 60 yX3_within wsX3_within) := goodIn_app (goodIn_of _ (by decide +kernel)) ggX3_year_X3_within
set_option maxRecDepth 20000 in
theorem ggX3_year_X3_isSide : GoodIn wsX3_year wsX3_isSide := goodIn_r _ [13, 7, 8, 9, 10] (by decide +kernel) (by decide +kernel)
set_option maxRecDepth 20000 in
theorem gX3_year_X3_isSide : GoodIn wsX3_year (va_wsS RX3 123 yX3_isSide wsX3_isSide) := goodIn_app (goodIn_of _ (by decide +kernel)) ggX3_year_X3_isSide
set_option maxRecDepth 20000 in
theorem ggX3_year_X0_floatsBy : GoodIn wsX3_year wsX0_floatsBy := goodIn_r _ [18, 19, 20, 9, 21, 65, 66, 67, 68, 69, 70, 71, 72, 73, 74, 75, 76, 77, 78] (by decide +kernel) (by decide +kernel)
set_option maxRecDepth 20000 in
theorem gX3_year_X0_floatsBy : GoodIn wsX3_year (wsV RX3 141 RX0 yX0_floatsBy wsX0_floatsBy) := goodIn_app (goodIn_of _ (by decide +kernel)) ggX3_year_X0_floatsBy
set_option maxRecDepth 20000 in
theorem ggX3_year_X2_plead : GoodIn wsX3_year wsX2_plead := goodIn_r _ [26, 27, 28, 29, 30, 31, 32, 33, 34, 9, 35, 36, 37, 38, 17, 39, 40, 41, 42, 43, 44, 25, 45, 46, 47, 48, 49, 50, 51, 52, 79, 80, 81, 82, 83, 84, 65, 66, 67, 68, 69, 70, 71, 72, 73, 74, 75, 76, 77, 78] (by decide +kernel) (by decide +kernel)
set_option maxRecDepth 20000 in
theorem gX3_year_X2_plead : GoodIn wsX3_year (wsV RX3 175 RX2 yX2_plead wsX2_plead) := goodIn_app (goodIn_of _ (by decide +kernel)) ggX3_year_X2_plead
set_option maxRecDepth 20000 in
theorem ggX3_year_X2_has : GoodIn wsX3_year wsX2_has := goodIn_r _ [56, 29, 30, 31, 32, 79, 80, 81, 82, 83, 84] (by decide +kernel) (by decide +kernel)
set_option maxRecDepth 20000 in
theorem gX3_year_X2_has : GoodIn wsX3_year (wsV RX3 126 RX2 yX2_has wsX2_has) := goodIn_app (goodIn_of _ (by decide +kernel)) ggX3_year_X2_has
theorem dX3_year_0 : decode cX3_year 0 = .ok (.iload_n 1, 1) := by decide +kernel
theorem dX3_year_1 : decode cX3_year 1 = .ok (.iconst 0, 1) := by decide +kernel
theorem dX3_year_2 : decode cX3_year 2 = .ok (.sipush 9999, 3) := by decide +kernel
theorem dX3_year_5 : decode cX3_year 5 = .ok (.invokestatic 60, 3) := by decide +kernel
theorem dX3_year_8 : decode cX3_year 8 = .ok (.ifCond .eq 25, 3) := by decide +kernel
theorem dX3_year_11 : decode cX3_year 11 = .ok (.iload_n 2, 1) := by decide +kernel
theorem dX3_year_12 : decode cX3_year 12 = .ok (.iconst 1, 1) := by decide +kernel
theorem dX3_year_13 : decode cX3_year 13 = .ok (.bipush 99, 2) := by decide +kernel
theorem dX3_year_15 : decode cX3_year 15 = .ok (.invokestatic 60, 3) := by decide +kernel
theorem dX3_year_18 : decode cX3_year 18 = .ok (.ifCond .eq 15, 3) := by decide +kernel
theorem dX3_year_21 : decode cX3_year 21 = .ok (.iload_n 3, 1) := by decide +kernel
theorem dX3_year_22 : decode cX3_year 22 = .ok (.iconst (-1), 1) := by decide +kernel
theorem dX3_year_23 : decode cX3_year 23 = .ok (.if_icmp .eq 13, 3) := by decide +kernel
theorem dX3_year_26 : decode cX3_year 26 = .ok (.iload_n 3, 1) := by decide +kernel
theorem dX3_year_27 : decode cX3_year 27 = .ok (.invokestatic 123, 3) := by decide +kernel
theorem dX3_year_30 : decode cX3_year 30 = .ok (.ifCond .ne 6, 3) := by decide +kernel
theorem dX3_year_33 : decode cX3_year 33 = .ok (.bipush (-2), 2) := by decide +kernel
theorem dX3_year_35 : decode cX3_year 35 = .ok (.ireturn, 1) := by decide +kernel
theorem dX3_year_36 : decode cX3_year 36 = .ok (.iload_n 1, 1) := by decide +kernel
theorem dX3_year_37 : decode cX3_year 37 = .ok (.istore 4, 2) := by decide +kernel
theorem dX3_year_39 : decode cX3_year 39 = .ok (.iconst 0, 1) := by decide +kernel
theorem dX3_year_40 : decode cX3_year 40 = .ok (.istore 5, 2) := by decide +kernel
theorem dX3_year_42 : decode cX3_year 42 = .ok (.iconst 0, 1) := by decide +kernel
theorem dX3_year_43 : decode cX3_year 43 = .ok (.istore 6, 2) := by decide +kernel
theorem dX3_year_45 : decode cX3_year 45 = .ok (.iload 6, 2) := by decide +kernel
theorem dX3_year_47 : decode cX3_year 47 = .ok (.iload_n 2, 1) := by decide +kernel
theorem dX3_year_48 : decode cX3_year 48 = .ok (.if_icmp .ge 92, 3) := by decide +kernel
theorem dX3_year_51 : decode cX3_year 51 = .ok (.bipush 75, 2) := by decide +kernel
theorem dX3_year_53 : decode cX3_year 53 = .ok (.iload 4, 2) := by decide +kernel
theorem dX3_year_55 : decode cX3_year 55 = .ok (.imul, 1) := by decide +kernel
theorem dX3_year_56 : decode cX3_year 56 = .ok (.bipush 74, 2) := by decide +kernel
theorem dX3_year_58 : decode cX3_year 58 = .ok (.iadd, 1) := by decide +kernel
theorem dX3_year_59 : decode cX3_year 59 = .ok (.ldc 191, 2) := by decide +kernel
theorem dX3_year_61 : decode cX3_year 61 = .ok (.irem, 1) := by decide +kernel
theorem dX3_year_62 : decode cX3_year 62 = .ok (.istore 4, 2) := by decide +kernel
theorem dX3_year_64 : decode cX3_year 64 = .ok (.aload_n 0, 1) := by decide +kernel
theorem dX3_year_65 : decode cX3_year 65 = .ok (.getfield 31, 3) := by decide +kernel
theorem dX3_year_68 : decode cX3_year 68 = .ok (.aload_n 0, 1) := by decide +kernel
theorem dX3_year_69 : decode cX3_year 69 = .ok (.getfield 20, 3) := by decide +kernel
theorem dX3_year_72 : decode cX3_year 72 = .ok (.aload_n 0, 1) := by decide +kernel
theorem dX3_year_73 : decode cX3_year 73 = .ok (.getfield 20, 3) := by decide +kernel
theorem dX3_year_76 : decode cX3_year 76 = .ok (.getfield 83, 3) := by decide +kernel
theorem dX3_year_79 : decode cX3_year 79 = .ok (.iconst 0, 1) := by decide +kernel
theorem dX3_year_80 : decode cX3_year 80 = .ok (.aload_n 0, 1) := by decide +kernel
theorem dX3_year_81 : decode cX3_year 81 = .ok (.getfield 20, 3) := by decide +kernel
theorem dX3_year_84 : decode cX3_year 84 = .ok (.iconst 1, 1) := by decide +kernel
theorem dX3_year_85 : decode cX3_year 85 = .ok (.iload 4, 2) := by decide +kernel
theorem dX3_year_87 : decode cX3_year 87 = .ok (.bipush 99, 2) := by decide +kernel
theorem dX3_year_89 : decode cX3_year 89 = .ok (.irem, 1) := by decide +kernel
theorem dX3_year_90 : decode cX3_year 90 = .ok (.iadd, 1) := by decide +kernel
theorem dX3_year_91 : decode cX3_year 91 = .ok (.aload_n 0, 1) := by decide +kernel
theorem dX3_year_92 : decode cX3_year 92 = .ok (.getfield 20, 3) := by decide +kernel
theorem dX3_year_95 : decode cX3_year 95 = .ok (.getfield 138, 3) := by decide +kernel
theorem dX3_year_98 : decode cX3_year 98 = .ok (.invokevirtual 141, 3) := by decide +kernel
theorem dX3_year_101 : decode cX3_year 101 = .ok (.iconst 0, 1) := by decide +kernel
theorem dX3_year_102 : decode cX3_year 102 = .ok (.iconst 0, 1) := by decide +kernel
theorem dX3_year_103 : decode cX3_year 103 = .ok (.invokevirtual 175, 3) := by decide +kernel
theorem dX3_year_106 : decode cX3_year 106 = .ok (.iload 5, 2) := by decide +kernel
theorem dX3_year_108 : decode cX3_year 108 = .ok (.iload_n 3, 1) := by decide +kernel
theorem dX3_year_109 : decode cX3_year 109 = .ok (.iconst (-1), 1) := by decide +kernel
theorem dX3_year_110 : decode cX3_year 110 = .ok (.if_icmp .ne 13, 3) := by decide +kernel
theorem dX3_year_113 : decode cX3_year 113 = .ok (.aload_n 0, 1) := by decide +kernel
theorem dX3_year_114 : decode cX3_year 114 = .ok (.getfield 31, 3) := by decide +kernel
theorem dX3_year_117 : decode cX3_year 117 = .ok (.getfield 111, 3) := by decide +kernel
theorem dX3_year_120 : decode cX3_year 120 = .ok (.goto 11, 3) := by decide +kernel
theorem dX3_year_123 : decode cX3_year 123 = .ok (.aload_n 0, 1) := by decide +kernel
theorem dX3_year_124 : decode cX3_year 124 = .ok (.getfield 31, 3) := by decide +kernel
theorem dX3_year_127 : decode cX3_year 127 = .ok (.iload_n 3, 1) := by decide +kernel
theorem dX3_year_128 : decode cX3_year 128 = .ok (.invokevirtual 126, 3) := by decide +kernel
theorem dX3_year_131 : decode cX3_year 131 = .ok (.iadd, 1) := by decide +kernel
theorem dX3_year_132 : decode cX3_year 132 = .ok (.istore 5, 2) := by decide +kernel
theorem dX3_year_134 : decode cX3_year 134 = .ok (.iinc 6 1, 3) := by decide +kernel
theorem dX3_year_137 : decode cX3_year 137 = .ok (.goto (-92), 3) := by decide +kernel
theorem dX3_year_140 : decode cX3_year 140 = .ok (.iload 5, 2) := by decide +kernel
theorem dX3_year_142 : decode cX3_year 142 = .ok (.ireturn, 1) := by decide +kernel
set_option maxRecDepth 20000 in
theorem ggX3_image_X3_imageOf : GoodIn wsX3_image wsX3_imageOf := goodIn_r _ [7, 8, 32, 33, 34, 35, 36, 37, 38, 39] (by decide +kernel) (by decide +kernel)
set_option maxRecDepth 20000 in
theorem gX3_image_X3_imageOf : GoodIn wsX3_image (wsV RX3 192 RX3 yX3_imageOf wsX3_imageOf) := goodIn_app (goodIn_of _ (by decide +kernel)) ggX3_image_X3_imageOf
set_option maxRecDepth 20000 in
theorem ggX3_image_X0_copy : GoodIn wsX3_image wsX0_copy := goodIn_r _ [13, 14, 15, 16, 17, 18, 19, 20, 21, 22, 23, 24, 25, 26, 27, 6, 28, 29, 30, 31, 40, 41, 42, 43, 44, 45, 46, 47, 48, 49, 50, 51, 52, 53] (by decide +kernel) (by decide +kernel)
set_option maxRecDepth 20000 in
theorem gX3_image_X0_copy : GoodIn wsX3_image (wsV RX3 196 RX0 yX0_copy wsX0_copy) := goodIn_app (goodIn_of _ (by decide +kernel)) ggX3_image_X0_copy
theorem dX3_image_0 : decode cX3_image 0 = .ok (.aload_n 0, 1) := by decide +kernel
theorem dX3_image_1 : decode cX3_image 1 = .ok (.iload_n 1, 1) := by decide +kernel
theorem dX3_image_2 : decode cX3_image 2 = .ok (.invokevirtual 192, 3) := by decide +kernel
theorem dX3_image_5 : decode cX3_image 5 = .ok (.astore_n 2, 1) := by decide +kernel
theorem dX3_image_6 : decode cX3_image 6 = .ok (.aload_n 2, 1) := by decide +kernel
theorem dX3_image_7 : decode cX3_image 7 = .ok (.ifnonnull 6, 3) := by decide +kernel
theorem dX3_image_10 : decode cX3_image 10 = .ok (.bipush (-2), 2) := by decide +kernel
theorem dX3_image_12 : decode cX3_image 12 = .ok (.ireturn, 1) := by decide +kernel
theorem dX3_image_13 : decode cX3_image 13 = .ok (.aload_n 2, 1) := by decide +kernel
theorem dX3_image_14 : decode cX3_image 14 = .ok (.aload_n 0, 1) := by decide +kernel
theorem dX3_image_15 : decode cX3_image 15 = .ok (.getfield 20, 3) := by decide +kernel
theorem dX3_image_18 : decode cX3_image 18 = .ok (.invokevirtual 196, 3) := by decide +kernel
theorem dX3_image_21 : decode cX3_image 21 = .ok (.aload_n 2, 1) := by decide +kernel
theorem dX3_image_22 : decode cX3_image 22 = .ok (.iconst 1, 1) := by decide +kernel
theorem dX3_image_23 : decode cX3_image 23 = .ok (.putfield 200, 3) := by decide +kernel
theorem dX3_image_26 : decode cX3_image 26 = .ok (.iconst 1, 1) := by decide +kernel
theorem dX3_image_27 : decode cX3_image 27 = .ok (.ireturn, 1) := by decide +kernel
set_option maxRecDepth 20000 in
theorem ggX3_restore_X3_imageOf : GoodIn wsX3_restore wsX3_imageOf := goodIn_r _ [7, 8, 46, 47, 48, 49, 50, 51, 52, 53] (by decide +kernel) (by decide +kernel)
set_option maxRecDepth 20000 in
theorem gX3_restore_X3_imageOf : GoodIn wsX3_restore (wsV RX3 192 RX3 yX3_imageOf wsX3_imageOf) := goodIn_app (goodIn_of _ (by decide +kernel)) ggX3_restore_X3_imageOf
set_option maxRecDepth 20000 in
theorem ggX3_restore_X0_copy : GoodIn wsX3_restore wsX0_copy := goodIn_r _ [13, 14, 15, 16, 17, 18, 19, 20, 21, 22, 23, 24, 25, 26, 27, 6, 28, 29, 30, 31, 32, 33, 34, 35, 36, 37, 38, 39, 40, 41, 42, 43, 44, 45] (by decide +kernel) (by decide +kernel)
set_option maxRecDepth 20000 in
theorem gX3_restore_X0_copy : GoodIn wsX3_restore (wsV RX3 196 RX0 yX0_copy wsX0_copy) := goodIn_app (goodIn_of _ (by decide +kernel)) ggX3_restore_X0_copy
theorem dX3_restore_0 : decode cX3_restore 0 = .ok (.aload_n 0, 1) := by decide +kernel
theorem dX3_restore_1 : decode cX3_restore 1 = .ok (.iload_n 1, 1) := by decide +kernel
theorem dX3_restore_2 : decode cX3_restore 2 = .ok (.invokevirtual 192, 3) := by decide +kernel
theorem dX3_restore_5 : decode cX3_restore 5 = .ok (.astore_n 2, 1) := by decide +kernel
theorem dX3_restore_6 : decode cX3_restore 6 = .ok (.aload_n 2, 1) := by decide +kernel
theorem dX3_restore_7 : decode cX3_restore 7 = .ok (.ifnonnull 6, 3) := by decide +kernel
theorem dX3_restore_10 : decode cX3_restore 10 = .ok (.bipush (-2), 2) := by decide +kernel
theorem dX3_restore_12 : decode cX3_restore 12 = .ok (.ireturn, 1) := by decide +kernel
theorem dX3_restore_13 : decode cX3_restore 13 = .ok (.aload_n 2, 1) := by decide +kernel
theorem dX3_restore_14 : decode cX3_restore 14 = .ok (.getfield 200, 3) := by decide +kernel
theorem dX3_restore_17 : decode cX3_restore 17 = .ok (.ifCond .ne 6, 3) := by decide +kernel
theorem dX3_restore_20 : decode cX3_restore 20 = .ok (.bipush (-3), 2) := by decide +kernel
theorem dX3_restore_22 : decode cX3_restore 22 = .ok (.ireturn, 1) := by decide +kernel
theorem dX3_restore_23 : decode cX3_restore 23 = .ok (.aload_n 0, 1) := by decide +kernel
theorem dX3_restore_24 : decode cX3_restore 24 = .ok (.getfield 20, 3) := by decide +kernel
theorem dX3_restore_27 : decode cX3_restore 27 = .ok (.aload_n 2, 1) := by decide +kernel
theorem dX3_restore_28 : decode cX3_restore 28 = .ok (.invokevirtual 196, 3) := by decide +kernel
theorem dX3_restore_31 : decode cX3_restore 31 = .ok (.iconst 1, 1) := by decide +kernel
theorem dX3_restore_32 : decode cX3_restore 32 = .ok (.ireturn, 1) := by decide +kernel
set_option maxRecDepth 20000 in
theorem ggX3_told_X3_within : GoodIn wsX3_told wsX3_within := goodIn_r _ [13] (by decide +kernel) (by decide +kernel)
set_option maxRecDepth 20000 in
theorem gX3_told_X3_within : GoodIn wsX3_told (va_wsS RX3 60 yX3_within wsX3_within) := goodIn_app (goodIn_of _ (by decide +kernel)) ggX3_told_X3_within
set_option maxRecDepth 20000 in
theorem ggX3_told_X3_at : GoodIn wsX3_told wsX3_at := goodIn_r _ [16] (by decide +kernel) (by decide +kernel)
set_option maxRecDepth 20000 in
theorem gX3_told_X3_at : GoodIn wsX3_told (va_wsS RX3 86 yX3_at wsX3_at) := goodIn_app (goodIn_of _ (by decide +kernel)) ggX3_told_X3_at
theorem dX3_told_0 : decode cX3_told 0 = .ok (.iload_n 1, 1) := by decide +kernel
theorem dX3_told_1 : decode cX3_told 1 = .ok (.tableswitch 96 0 6 #[43, 48, 56, 64, 72, 80, 88], 43) := by decide +kernel
theorem dX3_told_44 : decode cX3_told 44 = .ok (.aload_n 0, 1) := by decide +kernel
theorem dX3_told_45 : decode cX3_told 45 = .ok (.getfield 13, 3) := by decide +kernel
theorem dX3_told_48 : decode cX3_told 48 = .ok (.ireturn, 1) := by decide +kernel
theorem dX3_told_49 : decode cX3_told 49 = .ok (.aload_n 0, 1) := by decide +kernel
theorem dX3_told_50 : decode cX3_told 50 = .ok (.getfield 20, 3) := by decide +kernel
theorem dX3_told_53 : decode cX3_told 53 = .ok (.getfield 145, 3) := by decide +kernel
theorem dX3_told_56 : decode cX3_told 56 = .ok (.ireturn, 1) := by decide +kernel
theorem dX3_told_57 : decode cX3_told 57 = .ok (.aload_n 0, 1) := by decide +kernel
theorem dX3_told_58 : decode cX3_told 58 = .ok (.getfield 20, 3) := by decide +kernel
theorem dX3_told_61 : decode cX3_told 61 = .ok (.getfield 138, 3) := by decide +kernel
theorem dX3_told_64 : decode cX3_told 64 = .ok (.ireturn, 1) := by decide +kernel
theorem dX3_told_65 : decode cX3_told 65 = .ok (.aload_n 0, 1) := by decide +kernel
theorem dX3_told_66 : decode cX3_told 66 = .ok (.getfield 20, 3) := by decide +kernel
theorem dX3_told_69 : decode cX3_told 69 = .ok (.getfield 204, 3) := by decide +kernel
theorem dX3_told_72 : decode cX3_told 72 = .ok (.ireturn, 1) := by decide +kernel
theorem dX3_told_73 : decode cX3_told 73 = .ok (.aload_n 0, 1) := by decide +kernel
theorem dX3_told_74 : decode cX3_told 74 = .ok (.getfield 20, 3) := by decide +kernel
theorem dX3_told_77 : decode cX3_told 77 = .ok (.getfield 207, 3) := by decide +kernel
theorem dX3_told_80 : decode cX3_told 80 = .ok (.ireturn, 1) := by decide +kernel
theorem dX3_told_81 : decode cX3_told 81 = .ok (.aload_n 0, 1) := by decide +kernel
theorem dX3_told_82 : decode cX3_told 82 = .ok (.getfield 20, 3) := by decide +kernel
theorem dX3_told_85 : decode cX3_told 85 = .ok (.getfield 80, 3) := by decide +kernel
theorem dX3_told_88 : decode cX3_told 88 = .ok (.ireturn, 1) := by decide +kernel
theorem dX3_told_89 : decode cX3_told 89 = .ok (.aload_n 0, 1) := by decide +kernel
theorem dX3_told_90 : decode cX3_told 90 = .ok (.getfield 20, 3) := by decide +kernel
theorem dX3_told_93 : decode cX3_told 93 = .ok (.getfield 179, 3) := by decide +kernel
theorem dX3_told_96 : decode cX3_told 96 = .ok (.ireturn, 1) := by decide +kernel
theorem dX3_told_97 : decode cX3_told 97 = .ok (.iload_n 1, 1) := by decide +kernel
theorem dX3_told_98 : decode cX3_told 98 = .ok (.bipush 10, 2) := by decide +kernel
theorem dX3_told_100 : decode cX3_told 100 = .ok (.bipush 9, 2) := by decide +kernel
theorem dX3_told_102 : decode cX3_told 102 = .ok (.aload_n 0, 1) := by decide +kernel
theorem dX3_told_103 : decode cX3_told 103 = .ok (.getfield 20, 3) := by decide +kernel
theorem dX3_told_106 : decode cX3_told 106 = .ok (.getfield 80, 3) := by decide +kernel
theorem dX3_told_109 : decode cX3_told 109 = .ok (.iadd, 1) := by decide +kernel
theorem dX3_told_110 : decode cX3_told 110 = .ok (.invokestatic 60, 3) := by decide +kernel
theorem dX3_told_113 : decode cX3_told 113 = .ok (.ifCond .eq 20, 3) := by decide +kernel
theorem dX3_told_116 : decode cX3_told 116 = .ok (.aload_n 0, 1) := by decide +kernel
theorem dX3_told_117 : decode cX3_told 117 = .ok (.getfield 20, 3) := by decide +kernel
theorem dX3_told_120 : decode cX3_told 120 = .ok (.getfield 83, 3) := by decide +kernel
theorem dX3_told_123 : decode cX3_told 123 = .ok (.iload_n 1, 1) := by decide +kernel
theorem dX3_told_124 : decode cX3_told 124 = .ok (.bipush 10, 2) := by decide +kernel
theorem dX3_told_126 : decode cX3_told 126 = .ok (.isub, 1) := by decide +kernel
theorem dX3_told_127 : decode cX3_told 127 = .ok (.invokestatic 86, 3) := by decide +kernel
theorem dX3_told_130 : decode cX3_told 130 = .ok (.goto 5, 3) := by decide +kernel
theorem dX3_told_133 : decode cX3_told 133 = .ok (.bipush (-2), 2) := by decide +kernel
theorem dX3_told_135 : decode cX3_told 135 = .ok (.ireturn, 1) := by decide +kernel
theorem dX3_within_0 : decode cX3_within 0 = .ok (.iload_n 0, 1) := by decide +kernel
theorem dX3_within_1 : decode cX3_within 1 = .ok (.iload_n 1, 1) := by decide +kernel
theorem dX3_within_2 : decode cX3_within 2 = .ok (.if_icmp .lt 12, 3) := by decide +kernel
theorem dX3_within_5 : decode cX3_within 5 = .ok (.iload_n 0, 1) := by decide +kernel
theorem dX3_within_6 : decode cX3_within 6 = .ok (.iload_n 2, 1) := by decide +kernel
theorem dX3_within_7 : decode cX3_within 7 = .ok (.if_icmp .gt 7, 3) := by decide +kernel
theorem dX3_within_10 : decode cX3_within 10 = .ok (.iconst 1, 1) := by decide +kernel
theorem dX3_within_11 : decode cX3_within 11 = .ok (.goto 4, 3) := by decide +kernel
theorem dX3_within_14 : decode cX3_within 14 = .ok (.iconst 0, 1) := by decide +kernel
theorem dX3_within_15 : decode cX3_within 15 = .ok (.ireturn, 1) := by decide +kernel
set_option maxRecDepth 20000 in
theorem ggX3_settable_X3_within : GoodIn wsX3_settable wsX3_within := goodIn_r _ [4] (by decide +kernel) (by decide +kernel)
set_option maxRecDepth 20000 in
theorem gX3_settable_X3_within : GoodIn wsX3_settable (va_wsS RX3 60 yX3_within wsX3_within) := goodIn_app (goodIn_of _ (by decide +kernel)) ggX3_settable_X3_within
theorem dX3_settable_0 : decode cX3_settable 0 = .ok (.iload_n 0, 1) := by decide +kernel
theorem dX3_settable_1 : decode cX3_settable 1 = .ok (.tableswitch 63 0 3 #[31, 39, 47, 56], 31) := by decide +kernel
theorem dX3_settable_32 : decode cX3_settable 32 = .ok (.iload_n 1, 1) := by decide +kernel
theorem dX3_settable_33 : decode cX3_settable 33 = .ok (.iconst 1, 1) := by decide +kernel
theorem dX3_settable_34 : decode cX3_settable 34 = .ok (.bipush 99, 2) := by decide +kernel
theorem dX3_settable_36 : decode cX3_settable 36 = .ok (.invokestatic 60, 3) := by decide +kernel
theorem dX3_settable_39 : decode cX3_settable 39 = .ok (.ireturn, 1) := by decide +kernel
theorem dX3_settable_40 : decode cX3_settable 40 = .ok (.iload_n 1, 1) := by decide +kernel
theorem dX3_settable_41 : decode cX3_settable 41 = .ok (.iconst 1, 1) := by decide +kernel
theorem dX3_settable_42 : decode cX3_settable 42 = .ok (.bipush 9, 2) := by decide +kernel
theorem dX3_settable_44 : decode cX3_settable 44 = .ok (.invokestatic 60, 3) := by decide +kernel
theorem dX3_settable_47 : decode cX3_settable 47 = .ok (.ireturn, 1) := by decide +kernel
theorem dX3_settable_48 : decode cX3_settable 48 = .ok (.iload_n 1, 1) := by decide +kernel
theorem dX3_settable_49 : decode cX3_settable 49 = .ok (.iconst 0, 1) := by decide +kernel
theorem dX3_settable_50 : decode cX3_settable 50 = .ok (.sipush 999, 3) := by decide +kernel
theorem dX3_settable_53 : decode cX3_settable 53 = .ok (.invokestatic 60, 3) := by decide +kernel
theorem dX3_settable_56 : decode cX3_settable 56 = .ok (.ireturn, 1) := by decide +kernel
theorem dX3_settable_57 : decode cX3_settable 57 = .ok (.iload_n 1, 1) := by decide +kernel
theorem dX3_settable_58 : decode cX3_settable 58 = .ok (.iconst 0, 1) := by decide +kernel
theorem dX3_settable_59 : decode cX3_settable 59 = .ok (.iconst 1, 1) := by decide +kernel
theorem dX3_settable_60 : decode cX3_settable 60 = .ok (.invokestatic 60, 3) := by decide +kernel
theorem dX3_settable_63 : decode cX3_settable 63 = .ok (.ireturn, 1) := by decide +kernel
theorem dX3_settable_64 : decode cX3_settable 64 = .ok (.iconst 0, 1) := by decide +kernel
theorem dX3_settable_65 : decode cX3_settable 65 = .ok (.ireturn, 1) := by decide +kernel
set_option maxRecDepth 20000 in
theorem ggX3_isSide_X3_within : GoodIn wsX3_isSide wsX3_within := goodIn_r _ [4] (by decide +kernel) (by decide +kernel)
set_option maxRecDepth 20000 in
theorem gX3_isSide_X3_within : GoodIn wsX3_isSide (va_wsS RX3 60 yX3_within wsX3_within) := goodIn_app (goodIn_of _ (by decide +kernel)) ggX3_isSide_X3_within
theorem dX3_isSide_0 : decode cX3_isSide 0 = .ok (.iload_n 0, 1) := by decide +kernel
theorem dX3_isSide_1 : decode cX3_isSide 1 = .ok (.iconst 0, 1) := by decide +kernel
theorem dX3_isSide_2 : decode cX3_isSide 2 = .ok (.iconst 3, 1) := by decide +kernel
theorem dX3_isSide_3 : decode cX3_isSide 3 = .ok (.invokestatic 60, 3) := by decide +kernel
theorem dX3_isSide_6 : decode cX3_isSide 6 = .ok (.ireturn, 1) := by decide +kernel
set_option maxRecDepth 20000 in
theorem ggX3_isChance_X3_within : GoodIn wsX3_isChance wsX3_within := goodIn_r _ [4] (by decide +kernel) (by decide +kernel)
set_option maxRecDepth 20000 in
theorem gX3_isChance_X3_within : GoodIn wsX3_isChance (va_wsS RX3 60 yX3_within wsX3_within) := goodIn_app (goodIn_of _ (by decide +kernel)) ggX3_isChance_X3_within
theorem dX3_isChance_0 : decode cX3_isChance 0 = .ok (.iload_n 0, 1) := by decide +kernel
theorem dX3_isChance_1 : decode cX3_isChance 1 = .ok (.iconst 0, 1) := by decide +kernel
theorem dX3_isChance_2 : decode cX3_isChance 2 = .ok (.sipush 999, 3) := by decide +kernel
theorem dX3_isChance_5 : decode cX3_isChance 5 = .ok (.invokestatic 60, 3) := by decide +kernel
theorem dX3_isChance_8 : decode cX3_isChance 8 = .ok (.ifCond .eq 26, 3) := by decide +kernel
theorem dX3_isChance_11 : decode cX3_isChance 11 = .ok (.iload_n 1, 1) := by decide +kernel
theorem dX3_isChance_12 : decode cX3_isChance 12 = .ok (.iconst 0, 1) := by decide +kernel
theorem dX3_isChance_13 : decode cX3_isChance 13 = .ok (.bipush 10, 2) := by decide +kernel
theorem dX3_isChance_15 : decode cX3_isChance 15 = .ok (.invokestatic 60, 3) := by decide +kernel
theorem dX3_isChance_18 : decode cX3_isChance 18 = .ok (.ifCond .eq 16, 3) := by decide +kernel
theorem dX3_isChance_21 : decode cX3_isChance 21 = .ok (.iload_n 2, 1) := by decide +kernel
theorem dX3_isChance_22 : decode cX3_isChance 22 = .ok (.iconst 0, 1) := by decide +kernel
theorem dX3_isChance_23 : decode cX3_isChance 23 = .ok (.iconst 1, 1) := by decide +kernel
theorem dX3_isChance_24 : decode cX3_isChance 24 = .ok (.invokestatic 60, 3) := by decide +kernel
theorem dX3_isChance_27 : decode cX3_isChance 27 = .ok (.ifCond .eq 7, 3) := by decide +kernel
theorem dX3_isChance_30 : decode cX3_isChance 30 = .ok (.iconst 1, 1) := by decide +kernel
theorem dX3_isChance_31 : decode cX3_isChance 31 = .ok (.goto 4, 3) := by decide +kernel
theorem dX3_isChance_34 : decode cX3_isChance 34 = .ok (.iconst 0, 1) := by decide +kernel
theorem dX3_isChance_35 : decode cX3_isChance 35 = .ok (.ireturn, 1) := by decide +kernel
set_option maxRecDepth 20000 in
theorem ggX3_isSuit_X3_within : GoodIn wsX3_isSuit wsX3_within := goodIn_r _ [6] (by decide +kernel) (by decide +kernel)
set_option maxRecDepth 20000 in
theorem gX3_isSuit_X3_within : GoodIn wsX3_isSuit (va_wsS RX3 60 yX3_within wsX3_within) := goodIn_app (goodIn_of _ (by decide +kernel)) ggX3_isSuit_X3_within
theorem dX3_isSuit_0 : decode cX3_isSuit 0 = .ok (.iload_n 1, 1) := by decide +kernel
theorem dX3_isSuit_1 : decode cX3_isSuit 1 = .ok (.iconst 0, 1) := by decide +kernel
theorem dX3_isSuit_2 : decode cX3_isSuit 2 = .ok (.aload_n 0, 1) := by decide +kernel
theorem dX3_isSuit_3 : decode cX3_isSuit 3 = .ok (.getfield 20, 3) := by decide +kernel
theorem dX3_isSuit_6 : decode cX3_isSuit 6 = .ok (.getfield 80, 3) := by decide +kernel
theorem dX3_isSuit_9 : decode cX3_isSuit 9 = .ok (.iconst 1, 1) := by decide +kernel
theorem dX3_isSuit_10 : decode cX3_isSuit 10 = .ok (.isub, 1) := by decide +kernel
theorem dX3_isSuit_11 : decode cX3_isSuit 11 = .ok (.invokestatic 60, 3) := by decide +kernel
theorem dX3_isSuit_14 : decode cX3_isSuit 14 = .ok (.ireturn, 1) := by decide +kernel
set_option maxRecDepth 20000 in
theorem ggX3_isSet_X3_within : GoodIn wsX3_isSet wsX3_within := goodIn_r _ [6] (by decide +kernel) (by decide +kernel)
set_option maxRecDepth 20000 in
theorem gX3_isSet_X3_within : GoodIn wsX3_isSet (va_wsS RX3 60 yX3_within wsX3_within) := goodIn_app (goodIn_of _ (by decide +kernel)) ggX3_isSet_X3_within
theorem dX3_isSet_0 : decode cX3_isSet 0 = .ok (.iload_n 1, 1) := by decide +kernel
theorem dX3_isSet_1 : decode cX3_isSet 1 = .ok (.iconst 0, 1) := by decide +kernel
theorem dX3_isSet_2 : decode cX3_isSet 2 = .ok (.iconst 1, 1) := by decide +kernel
theorem dX3_isSet_3 : decode cX3_isSet 3 = .ok (.aload_n 0, 1) := by decide +kernel
theorem dX3_isSet_4 : decode cX3_isSet 4 = .ok (.getfield 20, 3) := by decide +kernel
theorem dX3_isSet_7 : decode cX3_isSet 7 = .ok (.getfield 80, 3) := by decide +kernel
theorem dX3_isSet_10 : decode cX3_isSet 10 = .ok (.ishl, 1) := by decide +kernel
theorem dX3_isSet_11 : decode cX3_isSet 11 = .ok (.iconst 1, 1) := by decide +kernel
theorem dX3_isSet_12 : decode cX3_isSet 12 = .ok (.isub, 1) := by decide +kernel
theorem dX3_isSet_13 : decode cX3_isSet 13 = .ok (.invokestatic 60, 3) := by decide +kernel
theorem dX3_isSet_16 : decode cX3_isSet 16 = .ok (.ireturn, 1) := by decide +kernel
theorem dX3_imageOf_0 : decode cX3_imageOf 0 = .ok (.iload_n 1, 1) := by decide +kernel
theorem dX3_imageOf_1 : decode cX3_imageOf 1 = .ok (.ifCond .lt 21, 3) := by decide +kernel
theorem dX3_imageOf_4 : decode cX3_imageOf 4 = .ok (.iload_n 1, 1) := by decide +kernel
theorem dX3_imageOf_5 : decode cX3_imageOf 5 = .ok (.aload_n 0, 1) := by decide +kernel
theorem dX3_imageOf_6 : decode cX3_imageOf 6 = .ok (.getfield 24, 3) := by decide +kernel
theorem dX3_imageOf_9 : decode cX3_imageOf 9 = .ok (.arraylength, 1) := by decide +kernel
theorem dX3_imageOf_10 : decode cX3_imageOf 10 = .ok (.if_icmp .ge 12, 3) := by decide +kernel
theorem dX3_imageOf_13 : decode cX3_imageOf 13 = .ok (.aload_n 0, 1) := by decide +kernel
theorem dX3_imageOf_14 : decode cX3_imageOf 14 = .ok (.getfield 24, 3) := by decide +kernel
theorem dX3_imageOf_17 : decode cX3_imageOf 17 = .ok (.iload_n 1, 1) := by decide +kernel
theorem dX3_imageOf_18 : decode cX3_imageOf 18 = .ok (.aaload, 1) := by decide +kernel
theorem dX3_imageOf_19 : decode cX3_imageOf 19 = .ok (.goto 4, 3) := by decide +kernel
theorem dX3_imageOf_22 : decode cX3_imageOf 22 = .ok (.aconst_null, 1) := by decide +kernel
theorem dX3_imageOf_23 : decode cX3_imageOf 23 = .ok (.areturn, 1) := by decide +kernel
theorem dX3_at_0 : decode cX3_at 0 = .ok (.aload_n 0, 1) := by decide +kernel
theorem dX3_at_1 : decode cX3_at 1 = .ok (.ifnull 19, 3) := by decide +kernel
theorem dX3_at_4 : decode cX3_at 4 = .ok (.iload_n 1, 1) := by decide +kernel
theorem dX3_at_5 : decode cX3_at 5 = .ok (.ifCond .lt 15, 3) := by decide +kernel
theorem dX3_at_8 : decode cX3_at 8 = .ok (.iload_n 1, 1) := by decide +kernel
theorem dX3_at_9 : decode cX3_at 9 = .ok (.aload_n 0, 1) := by decide +kernel
theorem dX3_at_10 : decode cX3_at 10 = .ok (.arraylength, 1) := by decide +kernel
theorem dX3_at_11 : decode cX3_at 11 = .ok (.if_icmp .ge 9, 3) := by decide +kernel
theorem dX3_at_14 : decode cX3_at 14 = .ok (.aload_n 0, 1) := by decide +kernel
theorem dX3_at_15 : decode cX3_at 15 = .ok (.iload_n 1, 1) := by decide +kernel
theorem dX3_at_16 : decode cX3_at 16 = .ok (.iaload, 1) := by decide +kernel
theorem dX3_at_17 : decode cX3_at 17 = .ok (.goto 4, 3) := by decide +kernel
theorem dX3_at_20 : decode cX3_at 20 = .ok (.iconst 0, 1) := by decide +kernel
theorem dX3_at_21 : decode cX3_at 21 = .ok (.ireturn, 1) := by decide +kernel
theorem dX3_put_0 : decode cX3_put 0 = .ok (.aload_n 0, 1) := by decide +kernel
theorem dX3_put_1 : decode cX3_put 1 = .ok (.ifnull 17, 3) := by decide +kernel
theorem dX3_put_4 : decode cX3_put 4 = .ok (.iload_n 1, 1) := by decide +kernel
theorem dX3_put_5 : decode cX3_put 5 = .ok (.ifCond .lt 13, 3) := by decide +kernel
theorem dX3_put_8 : decode cX3_put 8 = .ok (.iload_n 1, 1) := by decide +kernel
theorem dX3_put_9 : decode cX3_put 9 = .ok (.aload_n 0, 1) := by decide +kernel
theorem dX3_put_10 : decode cX3_put 10 = .ok (.arraylength, 1) := by decide +kernel
theorem dX3_put_11 : decode cX3_put 11 = .ok (.if_icmp .ge 7, 3) := by decide +kernel
theorem dX3_put_14 : decode cX3_put 14 = .ok (.aload_n 0, 1) := by decide +kernel
theorem dX3_put_15 : decode cX3_put 15 = .ok (.iload_n 1, 1) := by decide +kernel
theorem dX3_put_16 : decode cX3_put 16 = .ok (.iload_n 2, 1) := by decide +kernel
theorem dX3_put_17 : decode cX3_put 17 = .ok (.iastore, 1) := by decide +kernel
theorem dX3_put_18 : decode cX3_put 18 = .ok (.return_, 1) := by decide +kernel
set_option maxRecDepth 20000 in
theorem ggX3_copyRow_X3_at : GoodIn wsX3_copyRow wsX3_at := goodIn_r _ [4] (by decide +kernel) (by decide +kernel)
set_option maxRecDepth 20000 in
theorem gX3_copyRow_X3_at : GoodIn wsX3_copyRow (va_wsS RX3 86 yX3_at wsX3_at) := goodIn_app (goodIn_of _ (by decide +kernel)) ggX3_copyRow_X3_at
theorem dX3_copyRow_0 : decode cX3_copyRow 0 = .ok (.iconst 0, 1) := by decide +kernel
theorem dX3_copyRow_1 : decode cX3_copyRow 1 = .ok (.istore_n 2, 1) := by decide +kernel
theorem dX3_copyRow_2 : decode cX3_copyRow 2 = .ok (.aload_n 1, 1) := by decide +kernel
theorem dX3_copyRow_3 : decode cX3_copyRow 3 = .ok (.ifnull 23, 3) := by decide +kernel
theorem dX3_copyRow_6 : decode cX3_copyRow 6 = .ok (.iload_n 2, 1) := by decide +kernel
theorem dX3_copyRow_7 : decode cX3_copyRow 7 = .ok (.aload_n 1, 1) := by decide +kernel
theorem dX3_copyRow_8 : decode cX3_copyRow 8 = .ok (.arraylength, 1) := by decide +kernel
theorem dX3_copyRow_9 : decode cX3_copyRow 9 = .ok (.if_icmp .ge 17, 3) := by decide +kernel
theorem dX3_copyRow_12 : decode cX3_copyRow 12 = .ok (.aload_n 1, 1) := by decide +kernel
theorem dX3_copyRow_13 : decode cX3_copyRow 13 = .ok (.iload_n 2, 1) := by decide +kernel
theorem dX3_copyRow_14 : decode cX3_copyRow 14 = .ok (.aload_n 0, 1) := by decide +kernel
theorem dX3_copyRow_15 : decode cX3_copyRow 15 = .ok (.iload_n 2, 1) := by decide +kernel
theorem dX3_copyRow_16 : decode cX3_copyRow 16 = .ok (.invokestatic 86, 3) := by decide +kernel
theorem dX3_copyRow_19 : decode cX3_copyRow 19 = .ok (.iastore, 1) := by decide +kernel
theorem dX3_copyRow_20 : decode cX3_copyRow 20 = .ok (.iinc 2 1, 3) := by decide +kernel
theorem dX3_copyRow_23 : decode cX3_copyRow 23 = .ok (.goto (-21), 3) := by decide +kernel
theorem dX3_copyRow_26 : decode cX3_copyRow 26 = .ok (.return_, 1) := by decide +kernel
set_option maxRecDepth 20000 in
theorem ggX3_swap_X3_at : GoodIn wsX3_swap wsX3_at := goodIn_r _ [4] (by decide +kernel) (by decide +kernel)
set_option maxRecDepth 20000 in
theorem gX3_swap_X3_at : GoodIn wsX3_swap (va_wsS RX3 86 yX3_at wsX3_at) := goodIn_app (goodIn_of _ (by decide +kernel)) ggX3_swap_X3_at
set_option maxRecDepth 20000 in
theorem ggX3_swap_X3_put : GoodIn wsX3_swap wsX3_put := goodIn_r _ [7] (by decide +kernel) (by decide +kernel)
set_option maxRecDepth 20000 in
theorem gX3_swap_X3_put : GoodIn wsX3_swap (va_wsS RX3 64 yX3_put wsX3_put) := goodIn_app (goodIn_of _ (by decide +kernel)) ggX3_swap_X3_put
theorem dX3_swap_0 : decode cX3_swap 0 = .ok (.aload_n 0, 1) := by decide +kernel
theorem dX3_swap_1 : decode cX3_swap 1 = .ok (.iload_n 1, 1) := by decide +kernel
theorem dX3_swap_2 : decode cX3_swap 2 = .ok (.invokestatic 86, 3) := by decide +kernel
theorem dX3_swap_5 : decode cX3_swap 5 = .ok (.istore_n 3, 1) := by decide +kernel
theorem dX3_swap_6 : decode cX3_swap 6 = .ok (.aload_n 0, 1) := by decide +kernel
theorem dX3_swap_7 : decode cX3_swap 7 = .ok (.iload_n 1, 1) := by decide +kernel
theorem dX3_swap_8 : decode cX3_swap 8 = .ok (.aload_n 0, 1) := by decide +kernel
theorem dX3_swap_9 : decode cX3_swap 9 = .ok (.iload_n 2, 1) := by decide +kernel
theorem dX3_swap_10 : decode cX3_swap 10 = .ok (.invokestatic 86, 3) := by decide +kernel
theorem dX3_swap_13 : decode cX3_swap 13 = .ok (.invokestatic 64, 3) := by decide +kernel
theorem dX3_swap_16 : decode cX3_swap 16 = .ok (.aload_n 0, 1) := by decide +kernel
theorem dX3_swap_17 : decode cX3_swap 17 = .ok (.iload_n 2, 1) := by decide +kernel
theorem dX3_swap_18 : decode cX3_swap 18 = .ok (.iload_n 3, 1) := by decide +kernel
theorem dX3_swap_19 : decode cX3_swap 19 = .ok (.invokestatic 64, 3) := by decide +kernel
theorem dX3_swap_22 : decode cX3_swap 22 = .ok (.return_, 1) := by decide +kernel
set_option maxRecDepth 20000 in
theorem ggX3_orderFault_X3_at : GoodIn wsX3_orderFault wsX3_at := goodIn_r _ [8] (by decide +kernel) (by decide +kernel)
set_option maxRecDepth 20000 in
theorem gX3_orderFault_X3_at : GoodIn wsX3_orderFault (va_wsS RX3 86 yX3_at wsX3_at) := goodIn_app (goodIn_of _ (by decide +kernel)) ggX3_orderFault_X3_at
set_option maxRecDepth 20000 in
theorem ggX3_orderFault_X3_isSuit : GoodIn wsX3_orderFault wsX3_isSuit := goodIn_r _ [12, 3, 4, 13, 14, 7, 15, 16, 17, 18, 19, 20, 21, 22, 23, 24, 25, 26, 27, 28, 29, 30, 31, 32, 33, 34, 35, 36, 37] (by decide +kernel) (by decide +kernel)
set_option maxRecDepth 20000 in
theorem gX3_orderFault_X3_isSuit : GoodIn wsX3_orderFault (wsV RX3 89 RX3 yX3_isSuit wsX3_isSuit) := goodIn_app (goodIn_of _ (by decide +kernel)) ggX3_orderFault_X3_isSuit
theorem dX3_orderFault_0 : decode cX3_orderFault 0 = .ok (.iconst 0, 1) := by decide +kernel
theorem dX3_orderFault_1 : decode cX3_orderFault 1 = .ok (.istore_n 1, 1) := by decide +kernel
theorem dX3_orderFault_2 : decode cX3_orderFault 2 = .ok (.iconst 0, 1) := by decide +kernel
theorem dX3_orderFault_3 : decode cX3_orderFault 3 = .ok (.istore_n 2, 1) := by decide +kernel
theorem dX3_orderFault_4 : decode cX3_orderFault 4 = .ok (.iload_n 2, 1) := by decide +kernel
theorem dX3_orderFault_5 : decode cX3_orderFault 5 = .ok (.aload_n 0, 1) := by decide +kernel
theorem dX3_orderFault_6 : decode cX3_orderFault 6 = .ok (.getfield 13, 3) := by decide +kernel
theorem dX3_orderFault_9 : decode cX3_orderFault 9 = .ok (.if_icmp .ge 45, 3) := by decide +kernel
theorem dX3_orderFault_12 : decode cX3_orderFault 12 = .ok (.aload_n 0, 1) := by decide +kernel
theorem dX3_orderFault_13 : decode cX3_orderFault 13 = .ok (.getfield 9, 3) := by decide +kernel
theorem dX3_orderFault_16 : decode cX3_orderFault 16 = .ok (.iload_n 2, 1) := by decide +kernel
theorem dX3_orderFault_17 : decode cX3_orderFault 17 = .ok (.invokestatic 86, 3) := by decide +kernel
theorem dX3_orderFault_20 : decode cX3_orderFault 20 = .ok (.bipush 48, 2) := by decide +kernel
theorem dX3_orderFault_22 : decode cX3_orderFault 22 = .ok (.isub, 1) := by decide +kernel
theorem dX3_orderFault_23 : decode cX3_orderFault 23 = .ok (.istore_n 3, 1) := by decide +kernel
theorem dX3_orderFault_24 : decode cX3_orderFault 24 = .ok (.aload_n 0, 1) := by decide +kernel
theorem dX3_orderFault_25 : decode cX3_orderFault 25 = .ok (.iload_n 3, 1) := by decide +kernel
theorem dX3_orderFault_26 : decode cX3_orderFault 26 = .ok (.invokevirtual 89, 3) := by decide +kernel
theorem dX3_orderFault_29 : decode cX3_orderFault 29 = .ok (.ifCond .eq 11, 3) := by decide +kernel
theorem dX3_orderFault_32 : decode cX3_orderFault 32 = .ok (.iload_n 1, 1) := by decide +kernel
theorem dX3_orderFault_33 : decode cX3_orderFault 33 = .ok (.iload_n 3, 1) := by decide +kernel
theorem dX3_orderFault_34 : decode cX3_orderFault 34 = .ok (.ishr, 1) := by decide +kernel
theorem dX3_orderFault_35 : decode cX3_orderFault 35 = .ok (.iconst 1, 1) := by decide +kernel
theorem dX3_orderFault_36 : decode cX3_orderFault 36 = .ok (.iand, 1) := by decide +kernel
theorem dX3_orderFault_37 : decode cX3_orderFault 37 = .ok (.ifCond .eq 5, 3) := by decide +kernel
theorem dX3_orderFault_40 : decode cX3_orderFault 40 = .ok (.iload_n 2, 1) := by decide +kernel
theorem dX3_orderFault_41 : decode cX3_orderFault 41 = .ok (.ireturn, 1) := by decide +kernel
theorem dX3_orderFault_42 : decode cX3_orderFault 42 = .ok (.iload_n 1, 1) := by decide +kernel
theorem dX3_orderFault_43 : decode cX3_orderFault 43 = .ok (.iconst 1, 1) := by decide +kernel
theorem dX3_orderFault_44 : decode cX3_orderFault 44 = .ok (.iload_n 3, 1) := by decide +kernel
theorem dX3_orderFault_45 : decode cX3_orderFault 45 = .ok (.ishl, 1) := by decide +kernel
theorem dX3_orderFault_46 : decode cX3_orderFault 46 = .ok (.ior, 1) := by decide +kernel
theorem dX3_orderFault_47 : decode cX3_orderFault 47 = .ok (.istore_n 1, 1) := by decide +kernel
theorem dX3_orderFault_48 : decode cX3_orderFault 48 = .ok (.iinc 2 1, 3) := by decide +kernel
theorem dX3_orderFault_51 : decode cX3_orderFault 51 = .ok (.goto (-47), 3) := by decide +kernel
theorem dX3_orderFault_54 : decode cX3_orderFault 54 = .ok (.aload_n 0, 1) := by decide +kernel
theorem dX3_orderFault_55 : decode cX3_orderFault 55 = .ok (.getfield 13, 3) := by decide +kernel
theorem dX3_orderFault_58 : decode cX3_orderFault 58 = .ok (.aload_n 0, 1) := by decide +kernel
theorem dX3_orderFault_59 : decode cX3_orderFault 59 = .ok (.getfield 20, 3) := by decide +kernel
theorem dX3_orderFault_62 : decode cX3_orderFault 62 = .ok (.getfield 80, 3) := by decide +kernel
theorem dX3_orderFault_65 : decode cX3_orderFault 65 = .ok (.if_icmp .ge 10, 3) := by decide +kernel
theorem dX3_orderFault_68 : decode cX3_orderFault 68 = .ok (.aload_n 0, 1) := by decide +kernel
theorem dX3_orderFault_69 : decode cX3_orderFault 69 = .ok (.getfield 13, 3) := by decide +kernel
theorem dX3_orderFault_72 : decode cX3_orderFault 72 = .ok (.goto 5, 3) := by decide +kernel
theorem dX3_orderFault_75 : decode cX3_orderFault 75 = .ok (.bipush (-6), 2) := by decide +kernel
theorem dX3_orderFault_77 : decode cX3_orderFault 77 = .ok (.ireturn, 1) := by decide +kernel
set_option maxRecDepth 20000 in
theorem ggX3_findBest_X3_put : GoodIn wsX3_findBest wsX3_put := goodIn_r _ [9] (by decide +kernel) (by decide +kernel)
set_option maxRecDepth 20000 in
theorem gX3_findBest_X3_put : GoodIn wsX3_findBest (va_wsS RX3 64 yX3_put wsX3_put) := goodIn_app (goodIn_of _ (by decide +kernel)) ggX3_findBest_X3_put
set_option maxRecDepth 20000 in
theorem ggX3_findBest_X0_floats : GoodIn wsX3_findBest wsX0_floats := goodIn_r _ [14, 15, 16, 17, 18, 19, 13, 20, 21, 22, 8, 23, 77, 78, 79, 80, 81, 82, 83, 84, 85, 86, 87, 88, 89, 90] (by decide +kernel) (by decide +kernel)
set_option maxRecDepth 20000 in
theorem gX3_findBest_X0_floats : GoodIn wsX3_findBest (wsV RX3 105 RX0 yX0_floats wsX0_floats) := goodIn_app (goodIn_of _ (by decide +kernel)) ggX3_findBest_X0_floats
set_option maxRecDepth 20000 in
theorem ggX3_findBest_X2_plead : GoodIn wsX3_findBest wsX2_plead := goodIn_r _ [28, 29, 30, 31, 32, 33, 34, 35, 36, 8, 37, 38, 39, 40, 13, 41, 42, 43, 44, 45, 46, 27, 47, 48, 49, 50, 51, 52, 53, 54, 91, 92, 93, 94, 95, 96, 77, 78, 79, 80, 81, 82, 83, 84, 85, 86, 87, 88, 89, 90] (by decide +kernel) (by decide +kernel)
set_option maxRecDepth 20000 in
theorem gX3_findBest_X2_plead : GoodIn wsX3_findBest (wsV RX3 175 RX2 yX2_plead wsX2_plead) := goodIn_app (goodIn_of _ (by decide +kernel)) ggX3_findBest_X2_plead
set_option maxRecDepth 20000 in
theorem ggX3_findBest_X2_has : GoodIn wsX3_findBest wsX2_has := goodIn_r _ [58, 31, 32, 33, 34, 91, 92, 93, 94, 95, 96] (by decide +kernel) (by decide +kernel)
set_option maxRecDepth 20000 in
theorem gX3_findBest_X2_has : GoodIn wsX3_findBest (wsV RX3 126 RX2 yX2_has wsX2_has) := goodIn_app (goodIn_of _ (by decide +kernel)) ggX3_findBest_X2_has
set_option maxRecDepth 20000 in
theorem ggX3_findBest_X3_copyRow : GoodIn wsX3_findBest wsX3_copyRow := goodIn_r _ [61, 62, 36, 8, 37] (by decide +kernel) (by decide +kernel)
set_option maxRecDepth 20000 in
theorem gX3_findBest_X3_copyRow : GoodIn wsX3_findBest (va_wsS RX3 210 yX3_copyRow wsX3_copyRow) := goodIn_app (goodIn_of _ (by decide +kernel)) ggX3_findBest_X3_copyRow
set_option maxRecDepth 20000 in
theorem ggX3_findBest_X3_stepOrder : GoodIn wsX3_findBest wsX3_stepOrder := goodIn_r _ [65, 62, 36, 8, 37, 66, 67, 68, 6, 7, 9] (by decide +kernel) (by decide +kernel)
set_option maxRecDepth 20000 in
theorem gX3_findBest_X3_stepOrder : GoodIn wsX3_findBest (va_wsS RX3 214 yX3_stepOrder wsX3_stepOrder) := goodIn_app (goodIn_of _ (by decide +kernel)) ggX3_findBest_X3_stepOrder
theorem dX3_findBest_0 : decode cX3_findBest 0 = .ok (.iconst (-1), 1) := by decide +kernel
theorem dX3_findBest_1 : decode cX3_findBest 1 = .ok (.istore_n 2, 1) := by decide +kernel
theorem dX3_findBest_2 : decode cX3_findBest 2 = .ok (.iconst 0, 1) := by decide +kernel
theorem dX3_findBest_3 : decode cX3_findBest 3 = .ok (.istore_n 3, 1) := by decide +kernel
theorem dX3_findBest_4 : decode cX3_findBest 4 = .ok (.iload_n 3, 1) := by decide +kernel
theorem dX3_findBest_5 : decode cX3_findBest 5 = .ok (.bipush 6, 2) := by decide +kernel
theorem dX3_findBest_7 : decode cX3_findBest 7 = .ok (.if_icmp .ge 18, 3) := by decide +kernel
theorem dX3_findBest_10 : decode cX3_findBest 10 = .ok (.aload_n 0, 1) := by decide +kernel
theorem dX3_findBest_11 : decode cX3_findBest 11 = .ok (.getfield 42, 3) := by decide +kernel
theorem dX3_findBest_14 : decode cX3_findBest 14 = .ok (.iload_n 3, 1) := by decide +kernel
theorem dX3_findBest_15 : decode cX3_findBest 15 = .ok (.iload_n 3, 1) := by decide +kernel
theorem dX3_findBest_16 : decode cX3_findBest 16 = .ok (.invokestatic 64, 3) := by decide +kernel
theorem dX3_findBest_19 : decode cX3_findBest 19 = .ok (.iinc 3 1, 3) := by decide +kernel
theorem dX3_findBest_22 : decode cX3_findBest 22 = .ok (.goto (-18), 3) := by decide +kernel
theorem dX3_findBest_25 : decode cX3_findBest 25 = .ok (.iconst 1, 1) := by decide +kernel
theorem dX3_findBest_26 : decode cX3_findBest 26 = .ok (.istore_n 3, 1) := by decide +kernel
theorem dX3_findBest_27 : decode cX3_findBest 27 = .ok (.iconst 0, 1) := by decide +kernel
theorem dX3_findBest_28 : decode cX3_findBest 28 = .ok (.istore 4, 2) := by decide +kernel
theorem dX3_findBest_30 : decode cX3_findBest 30 = .ok (.iload 4, 2) := by decide +kernel
theorem dX3_findBest_32 : decode cX3_findBest 32 = .ok (.sipush 720, 3) := by decide +kernel
theorem dX3_findBest_35 : decode cX3_findBest 35 = .ok (.if_icmp .ge 83, 3) := by decide +kernel
theorem dX3_findBest_38 : decode cX3_findBest 38 = .ok (.iload_n 3, 1) := by decide +kernel
theorem dX3_findBest_39 : decode cX3_findBest 39 = .ok (.ifCond .eq 79, 3) := by decide +kernel
theorem dX3_findBest_42 : decode cX3_findBest 42 = .ok (.aload_n 0, 1) := by decide +kernel
theorem dX3_findBest_43 : decode cX3_findBest 43 = .ok (.getfield 31, 3) := by decide +kernel
theorem dX3_findBest_46 : decode cX3_findBest 46 = .ok (.aload_n 0, 1) := by decide +kernel
theorem dX3_findBest_47 : decode cX3_findBest 47 = .ok (.getfield 20, 3) := by decide +kernel
theorem dX3_findBest_50 : decode cX3_findBest 50 = .ok (.aload_n 0, 1) := by decide +kernel
theorem dX3_findBest_51 : decode cX3_findBest 51 = .ok (.getfield 42, 3) := by decide +kernel
theorem dX3_findBest_54 : decode cX3_findBest 54 = .ok (.iconst 0, 1) := by decide +kernel
theorem dX3_findBest_55 : decode cX3_findBest 55 = .ok (.aload_n 0, 1) := by decide +kernel
theorem dX3_findBest_56 : decode cX3_findBest 56 = .ok (.getfield 20, 3) := by decide +kernel
theorem dX3_findBest_59 : decode cX3_findBest 59 = .ok (.invokevirtual 105, 3) := by decide +kernel
theorem dX3_findBest_62 : decode cX3_findBest 62 = .ok (.iconst 0, 1) := by decide +kernel
theorem dX3_findBest_63 : decode cX3_findBest 63 = .ok (.iconst 0, 1) := by decide +kernel
theorem dX3_findBest_64 : decode cX3_findBest 64 = .ok (.invokevirtual 175, 3) := by decide +kernel
theorem dX3_findBest_67 : decode cX3_findBest 67 = .ok (.aload_n 0, 1) := by decide +kernel
theorem dX3_findBest_68 : decode cX3_findBest 68 = .ok (.getfield 31, 3) := by decide +kernel
theorem dX3_findBest_71 : decode cX3_findBest 71 = .ok (.iload_n 1, 1) := by decide +kernel
theorem dX3_findBest_72 : decode cX3_findBest 72 = .ok (.invokevirtual 126, 3) := by decide +kernel
theorem dX3_findBest_75 : decode cX3_findBest 75 = .ok (.istore 5, 2) := by decide +kernel
theorem dX3_findBest_77 : decode cX3_findBest 77 = .ok (.iload 5, 2) := by decide +kernel
theorem dX3_findBest_79 : decode cX3_findBest 79 = .ok (.iload_n 2, 1) := by decide +kernel
theorem dX3_findBest_80 : decode cX3_findBest 80 = .ok (.if_icmp .le 17, 3) := by decide +kernel
theorem dX3_findBest_83 : decode cX3_findBest 83 = .ok (.iload 5, 2) := by decide +kernel
theorem dX3_findBest_85 : decode cX3_findBest 85 = .ok (.istore_n 2, 1) := by decide +kernel
theorem dX3_findBest_86 : decode cX3_findBest 86 = .ok (.aload_n 0, 1) := by decide +kernel
theorem dX3_findBest_87 : decode cX3_findBest 87 = .ok (.getfield 42, 3) := by decide +kernel
theorem dX3_findBest_90 : decode cX3_findBest 90 = .ok (.aload_n 0, 1) := by decide +kernel
theorem dX3_findBest_91 : decode cX3_findBest 91 = .ok (.getfield 45, 3) := by decide +kernel
theorem dX3_findBest_94 : decode cX3_findBest 94 = .ok (.invokestatic 210, 3) := by decide +kernel
theorem dX3_findBest_97 : decode cX3_findBest 97 = .ok (.aload_n 0, 1) := by decide +kernel
theorem dX3_findBest_98 : decode cX3_findBest 98 = .ok (.getfield 42, 3) := by decide +kernel
theorem dX3_findBest_101 : decode cX3_findBest 101 = .ok (.aload_n 0, 1) := by decide +kernel
theorem dX3_findBest_102 : decode cX3_findBest 102 = .ok (.getfield 20, 3) := by decide +kernel
theorem dX3_findBest_105 : decode cX3_findBest 105 = .ok (.getfield 80, 3) := by decide +kernel
theorem dX3_findBest_108 : decode cX3_findBest 108 = .ok (.invokestatic 214, 3) := by decide +kernel
theorem dX3_findBest_111 : decode cX3_findBest 111 = .ok (.istore_n 3, 1) := by decide +kernel
theorem dX3_findBest_112 : decode cX3_findBest 112 = .ok (.iinc 4 1, 3) := by decide +kernel
theorem dX3_findBest_115 : decode cX3_findBest 115 = .ok (.goto (-85), 3) := by decide +kernel
theorem dX3_findBest_118 : decode cX3_findBest 118 = .ok (.iload_n 2, 1) := by decide +kernel
theorem dX3_findBest_119 : decode cX3_findBest 119 = .ok (.ireturn, 1) := by decide +kernel
set_option maxRecDepth 20000 in
theorem ggX3_stepOrder_X3_at : GoodIn wsX3_stepOrder wsX3_at := goodIn_r _ [4] (by decide +kernel) (by decide +kernel)
set_option maxRecDepth 20000 in
theorem gX3_stepOrder_X3_at : GoodIn wsX3_stepOrder (va_wsS RX3 86 yX3_at wsX3_at) := goodIn_app (goodIn_of _ (by decide +kernel)) ggX3_stepOrder_X3_at
set_option maxRecDepth 20000 in
theorem ggX3_stepOrder_X3_swap : GoodIn wsX3_stepOrder wsX3_swap := goodIn_r _ [7, 1, 2, 3, 4, 8, 9, 10] (by decide +kernel) (by decide +kernel)
set_option maxRecDepth 20000 in
theorem gX3_stepOrder_X3_swap : GoodIn wsX3_stepOrder (va_wsS RX3 218 yX3_swap wsX3_swap) := goodIn_app (goodIn_of _ (by decide +kernel)) ggX3_stepOrder_X3_swap
theorem dX3_stepOrder_0 : decode cX3_stepOrder 0 = .ok (.iload_n 1, 1) := by decide +kernel
theorem dX3_stepOrder_1 : decode cX3_stepOrder 1 = .ok (.iconst 2, 1) := by decide +kernel
theorem dX3_stepOrder_2 : decode cX3_stepOrder 2 = .ok (.isub, 1) := by decide +kernel
theorem dX3_stepOrder_3 : decode cX3_stepOrder 3 = .ok (.istore_n 2, 1) := by decide +kernel
theorem dX3_stepOrder_4 : decode cX3_stepOrder 4 = .ok (.iload_n 2, 1) := by decide +kernel
theorem dX3_stepOrder_5 : decode cX3_stepOrder 5 = .ok (.ifCond .lt 24, 3) := by decide +kernel
theorem dX3_stepOrder_8 : decode cX3_stepOrder 8 = .ok (.aload_n 0, 1) := by decide +kernel
theorem dX3_stepOrder_9 : decode cX3_stepOrder 9 = .ok (.iload_n 2, 1) := by decide +kernel
theorem dX3_stepOrder_10 : decode cX3_stepOrder 10 = .ok (.invokestatic 86, 3) := by decide +kernel
theorem dX3_stepOrder_13 : decode cX3_stepOrder 13 = .ok (.aload_n 0, 1) := by decide +kernel
theorem dX3_stepOrder_14 : decode cX3_stepOrder 14 = .ok (.iload_n 2, 1) := by decide +kernel
theorem dX3_stepOrder_15 : decode cX3_stepOrder 15 = .ok (.iconst 1, 1) := by decide +kernel
theorem dX3_stepOrder_16 : decode cX3_stepOrder 16 = .ok (.iadd, 1) := by decide +kernel
theorem dX3_stepOrder_17 : decode cX3_stepOrder 17 = .ok (.invokestatic 86, 3) := by decide +kernel
theorem dX3_stepOrder_20 : decode cX3_stepOrder 20 = .ok (.if_icmp .lt 9, 3) := by decide +kernel
theorem dX3_stepOrder_23 : decode cX3_stepOrder 23 = .ok (.iinc 2 (-1), 3) := by decide +kernel
theorem dX3_stepOrder_26 : decode cX3_stepOrder 26 = .ok (.goto (-22), 3) := by decide +kernel
theorem dX3_stepOrder_29 : decode cX3_stepOrder 29 = .ok (.iload_n 2, 1) := by decide +kernel
theorem dX3_stepOrder_30 : decode cX3_stepOrder 30 = .ok (.ifCond .ge 5, 3) := by decide +kernel
theorem dX3_stepOrder_33 : decode cX3_stepOrder 33 = .ok (.iconst 0, 1) := by decide +kernel
theorem dX3_stepOrder_34 : decode cX3_stepOrder 34 = .ok (.ireturn, 1) := by decide +kernel
theorem dX3_stepOrder_35 : decode cX3_stepOrder 35 = .ok (.iload_n 1, 1) := by decide +kernel
theorem dX3_stepOrder_36 : decode cX3_stepOrder 36 = .ok (.iconst 1, 1) := by decide +kernel
theorem dX3_stepOrder_37 : decode cX3_stepOrder 37 = .ok (.isub, 1) := by decide +kernel
theorem dX3_stepOrder_38 : decode cX3_stepOrder 38 = .ok (.istore_n 3, 1) := by decide +kernel
theorem dX3_stepOrder_39 : decode cX3_stepOrder 39 = .ok (.iload_n 3, 1) := by decide +kernel
theorem dX3_stepOrder_40 : decode cX3_stepOrder 40 = .ok (.iload_n 2, 1) := by decide +kernel
theorem dX3_stepOrder_41 : decode cX3_stepOrder 41 = .ok (.if_icmp .le 22, 3) := by decide +kernel
theorem dX3_stepOrder_44 : decode cX3_stepOrder 44 = .ok (.aload_n 0, 1) := by decide +kernel
theorem dX3_stepOrder_45 : decode cX3_stepOrder 45 = .ok (.iload_n 3, 1) := by decide +kernel
theorem dX3_stepOrder_46 : decode cX3_stepOrder 46 = .ok (.invokestatic 86, 3) := by decide +kernel
theorem dX3_stepOrder_49 : decode cX3_stepOrder 49 = .ok (.aload_n 0, 1) := by decide +kernel
theorem dX3_stepOrder_50 : decode cX3_stepOrder 50 = .ok (.iload_n 2, 1) := by decide +kernel
theorem dX3_stepOrder_51 : decode cX3_stepOrder 51 = .ok (.invokestatic 86, 3) := by decide +kernel
theorem dX3_stepOrder_54 : decode cX3_stepOrder 54 = .ok (.if_icmp .gt 9, 3) := by decide +kernel
theorem dX3_stepOrder_57 : decode cX3_stepOrder 57 = .ok (.iinc 3 (-1), 3) := by decide +kernel
theorem dX3_stepOrder_60 : decode cX3_stepOrder 60 = .ok (.goto (-21), 3) := by decide +kernel
theorem dX3_stepOrder_63 : decode cX3_stepOrder 63 = .ok (.aload_n 0, 1) := by decide +kernel
theorem dX3_stepOrder_64 : decode cX3_stepOrder 64 = .ok (.iload_n 2, 1) := by decide +kernel
theorem dX3_stepOrder_65 : decode cX3_stepOrder 65 = .ok (.iload_n 3, 1) := by decide +kernel
theorem dX3_stepOrder_66 : decode cX3_stepOrder 66 = .ok (.invokestatic 218, 3) := by decide +kernel
theorem dX3_stepOrder_69 : decode cX3_stepOrder 69 = .ok (.iload_n 2, 1) := by decide +kernel
theorem dX3_stepOrder_70 : decode cX3_stepOrder 70 = .ok (.iconst 1, 1) := by decide +kernel
theorem dX3_stepOrder_71 : decode cX3_stepOrder 71 = .ok (.iadd, 1) := by decide +kernel
theorem dX3_stepOrder_72 : decode cX3_stepOrder 72 = .ok (.istore 4, 2) := by decide +kernel
theorem dX3_stepOrder_74 : decode cX3_stepOrder 74 = .ok (.iload_n 1, 1) := by decide +kernel
theorem dX3_stepOrder_75 : decode cX3_stepOrder 75 = .ok (.iconst 1, 1) := by decide +kernel
theorem dX3_stepOrder_76 : decode cX3_stepOrder 76 = .ok (.isub, 1) := by decide +kernel
theorem dX3_stepOrder_77 : decode cX3_stepOrder 77 = .ok (.istore 5, 2) := by decide +kernel
theorem dX3_stepOrder_79 : decode cX3_stepOrder 79 = .ok (.iload 4, 2) := by decide +kernel
theorem dX3_stepOrder_81 : decode cX3_stepOrder 81 = .ok (.iload 5, 2) := by decide +kernel
theorem dX3_stepOrder_83 : decode cX3_stepOrder 83 = .ok (.if_icmp .ge 20, 3) := by decide +kernel
theorem dX3_stepOrder_86 : decode cX3_stepOrder 86 = .ok (.aload_n 0, 1) := by decide +kernel
theorem dX3_stepOrder_87 : decode cX3_stepOrder 87 = .ok (.iload 4, 2) := by decide +kernel
theorem dX3_stepOrder_89 : decode cX3_stepOrder 89 = .ok (.iload 5, 2) := by decide +kernel
theorem dX3_stepOrder_91 : decode cX3_stepOrder 91 = .ok (.invokestatic 218, 3) := by decide +kernel
theorem dX3_stepOrder_94 : decode cX3_stepOrder 94 = .ok (.iinc 4 1, 3) := by decide +kernel
theorem dX3_stepOrder_97 : decode cX3_stepOrder 97 = .ok (.iinc 5 (-1), 3) := by decide +kernel
theorem dX3_stepOrder_100 : decode cX3_stepOrder 100 = .ok (.goto (-21), 3) := by decide +kernel
theorem dX3_stepOrder_103 : decode cX3_stepOrder 103 = .ok (.iconst 1, 1) := by decide +kernel
theorem dX3_stepOrder_104 : decode cX3_stepOrder 104 = .ok (.ireturn, 1) := by decide +kernel
set_option maxRecDepth 20000 in
theorem ggX3_sitToday_X0_floats : GoodIn wsX3_sitToday wsX0_floats := goodIn_r _ [8, 9, 10, 11, 12, 13, 7, 14, 15, 16, 17, 18, 58, 59, 60, 61, 62, 63, 64, 65, 66, 67, 68, 69, 70, 71] (by decide +kernel) (by decide +kernel)
set_option maxRecDepth 20000 in
theorem gX3_sitToday_X0_floats : GoodIn wsX3_sitToday (wsV RX3 105 RX0 yX0_floats wsX0_floats) := goodIn_app (goodIn_of _ (by decide +kernel)) ggX3_sitToday_X0_floats
set_option maxRecDepth 20000 in
theorem ggX3_sitToday_X2_plead : GoodIn wsX3_sitToday wsX2_plead := goodIn_r _ [23, 24, 25, 26, 27, 28, 29, 30, 31, 17, 32, 33, 34, 35, 7, 36, 37, 38, 39, 40, 41, 22, 42, 43, 44, 45, 46, 47, 48, 49, 72, 73, 74, 75, 76, 77, 58, 59, 60, 61, 62, 63, 64, 65, 66, 67, 68, 69, 70, 71] (by decide +kernel) (by decide +kernel)
set_option maxRecDepth 20000 in
theorem gX3_sitToday_X2_plead : GoodIn wsX3_sitToday (wsV RX3 175 RX2 yX2_plead wsX2_plead) := goodIn_app (goodIn_of _ (by decide +kernel)) ggX3_sitToday_X2_plead
theorem dX3_sitToday_0 : decode cX3_sitToday 0 = .ok (.aload_n 0, 1) := by decide +kernel
theorem dX3_sitToday_1 : decode cX3_sitToday 1 = .ok (.getfield 31, 3) := by decide +kernel
theorem dX3_sitToday_4 : decode cX3_sitToday 4 = .ok (.aload_n 0, 1) := by decide +kernel
theorem dX3_sitToday_5 : decode cX3_sitToday 5 = .ok (.getfield 20, 3) := by decide +kernel
theorem dX3_sitToday_8 : decode cX3_sitToday 8 = .ok (.aload_n 0, 1) := by decide +kernel
theorem dX3_sitToday_9 : decode cX3_sitToday 9 = .ok (.getfield 20, 3) := by decide +kernel
theorem dX3_sitToday_12 : decode cX3_sitToday 12 = .ok (.getfield 83, 3) := by decide +kernel
theorem dX3_sitToday_15 : decode cX3_sitToday 15 = .ok (.iconst 0, 1) := by decide +kernel
theorem dX3_sitToday_16 : decode cX3_sitToday 16 = .ok (.aload_n 0, 1) := by decide +kernel
theorem dX3_sitToday_17 : decode cX3_sitToday 17 = .ok (.getfield 20, 3) := by decide +kernel
theorem dX3_sitToday_20 : decode cX3_sitToday 20 = .ok (.invokevirtual 105, 3) := by decide +kernel
theorem dX3_sitToday_23 : decode cX3_sitToday 23 = .ok (.iconst 0, 1) := by decide +kernel
theorem dX3_sitToday_24 : decode cX3_sitToday 24 = .ok (.iconst 0, 1) := by decide +kernel
theorem dX3_sitToday_25 : decode cX3_sitToday 25 = .ok (.invokevirtual 175, 3) := by decide +kernel
theorem dX3_sitToday_28 : decode cX3_sitToday 28 = .ok (.return_, 1) := by decide +kernel
set_option maxRecDepth 20000 in
theorem ggX3_sitDrawn_X0_floats : GoodIn wsX3_sitDrawn wsX0_floats := goodIn_r _ [8, 9, 10, 11, 12, 13, 7, 14, 15, 16, 17, 18, 58, 59, 60, 61, 62, 63, 64, 65, 66, 67, 68, 69, 70, 71] (by decide +kernel) (by decide +kernel)
set_option maxRecDepth 20000 in
theorem gX3_sitDrawn_X0_floats : GoodIn wsX3_sitDrawn (wsV RX3 105 RX0 yX0_floats wsX0_floats) := goodIn_app (goodIn_of _ (by decide +kernel)) ggX3_sitDrawn_X0_floats
set_option maxRecDepth 20000 in
theorem ggX3_sitDrawn_X2_plead : GoodIn wsX3_sitDrawn wsX2_plead := goodIn_r _ [23, 24, 25, 26, 27, 28, 29, 30, 31, 17, 32, 33, 34, 35, 7, 36, 37, 38, 39, 40, 41, 22, 42, 43, 44, 45, 46, 47, 48, 49, 72, 73, 74, 75, 76, 77, 58, 59, 60, 61, 62, 63, 64, 65, 66, 67, 68, 69, 70, 71] (by decide +kernel) (by decide +kernel)
set_option maxRecDepth 20000 in
theorem gX3_sitDrawn_X2_plead : GoodIn wsX3_sitDrawn (wsV RX3 175 RX2 yX2_plead wsX2_plead) := goodIn_app (goodIn_of _ (by decide +kernel)) ggX3_sitDrawn_X2_plead
theorem dX3_sitDrawn_0 : decode cX3_sitDrawn 0 = .ok (.aload_n 0, 1) := by decide +kernel
theorem dX3_sitDrawn_1 : decode cX3_sitDrawn 1 = .ok (.getfield 31, 3) := by decide +kernel
theorem dX3_sitDrawn_4 : decode cX3_sitDrawn 4 = .ok (.aload_n 0, 1) := by decide +kernel
theorem dX3_sitDrawn_5 : decode cX3_sitDrawn 5 = .ok (.getfield 20, 3) := by decide +kernel
theorem dX3_sitDrawn_8 : decode cX3_sitDrawn 8 = .ok (.aload_n 0, 1) := by decide +kernel
theorem dX3_sitDrawn_9 : decode cX3_sitDrawn 9 = .ok (.getfield 20, 3) := by decide +kernel
theorem dX3_sitDrawn_12 : decode cX3_sitDrawn 12 = .ok (.getfield 83, 3) := by decide +kernel
theorem dX3_sitDrawn_15 : decode cX3_sitDrawn 15 = .ok (.iconst 0, 1) := by decide +kernel
theorem dX3_sitDrawn_16 : decode cX3_sitDrawn 16 = .ok (.aload_n 0, 1) := by decide +kernel
theorem dX3_sitDrawn_17 : decode cX3_sitDrawn 17 = .ok (.getfield 20, 3) := by decide +kernel
theorem dX3_sitDrawn_20 : decode cX3_sitDrawn 20 = .ok (.invokevirtual 105, 3) := by decide +kernel
theorem dX3_sitDrawn_23 : decode cX3_sitDrawn 23 = .ok (.iload_n 1, 1) := by decide +kernel
theorem dX3_sitDrawn_24 : decode cX3_sitDrawn 24 = .ok (.iload_n 2, 1) := by decide +kernel
theorem dX3_sitDrawn_25 : decode cX3_sitDrawn 25 = .ok (.invokevirtual 175, 3) := by decide +kernel
theorem dX3_sitDrawn_28 : decode cX3_sitDrawn 28 = .ok (.return_, 1) := by decide +kernel
set_option maxRecDepth 20000 in
theorem ggX3_fate_X3_sitToday : GoodIn wsX3_fate wsX3_sitToday := goodIn_r _ [9, 1, 3, 10, 11, 12, 13, 14, 15, 16, 17, 18, 19, 20, 21, 22, 23, 8, 24, 25, 26, 27, 28, 29, 30, 31, 32, 33, 34, 35, 36, 37, 38, 39, 40, 41, 42, 43, 44, 45, 46, 47, 48, 49, 50, 51, 52, 53, 54, 55, 62, 63, 64, 65, 66, 67, 68, 69, 76, 77, 78, 79, 80, 81, 82, 83, 84, 85, 86, 87, 88, 89, 70, 71, 72, 73, 74, 75] (by decide +kernel) (by decide +kernel)
set_option maxRecDepth 20000 in
theorem gX3_fate_X3_sitToday : GoodIn wsX3_fate (wsV RX3 108 RX3 yX3_sitToday wsX3_sitToday) := goodIn_app (goodIn_of _ (by decide +kernel)) ggX3_fate_X3_sitToday
set_option maxRecDepth 20000 in
theorem ggX3_fate_X0_place : GoodIn wsX3_fate wsX0_place := goodIn_r _ [59, 60, 61, 37, 8, 38, 76, 77, 78, 79, 80, 81, 82, 83, 84, 85, 86, 87, 88, 89] (by decide +kernel) (by decide +kernel)
set_option maxRecDepth 20000 in
theorem gX3_fate_X0_place : GoodIn wsX3_fate (wsV RX3 161 RX0 yX0_place wsX0_place) := goodIn_app (goodIn_of _ (by decide +kernel)) ggX3_fate_X0_place
theorem dX3_fate_0 : decode cX3_fate 0 = .ok (.aload_n 0, 1) := by decide +kernel
theorem dX3_fate_1 : decode cX3_fate 1 = .ok (.invokevirtual 108, 3) := by decide +kernel
theorem dX3_fate_4 : decode cX3_fate 4 = .ok (.iload_n 1, 1) := by decide +kernel
theorem dX3_fate_5 : decode cX3_fate 5 = .ok (.aload_n 0, 1) := by decide +kernel
theorem dX3_fate_6 : decode cX3_fate 6 = .ok (.getfield 31, 3) := by decide +kernel
theorem dX3_fate_9 : decode cX3_fate 9 = .ok (.getfield 114, 3) := by decide +kernel
theorem dX3_fate_12 : decode cX3_fate 12 = .ok (.if_icmp .ne 5, 3) := by decide +kernel
theorem dX3_fate_15 : decode cX3_fate 15 = .ok (.iconst 1, 1) := by decide +kernel
theorem dX3_fate_16 : decode cX3_fate 16 = .ok (.ireturn, 1) := by decide +kernel
theorem dX3_fate_17 : decode cX3_fate 17 = .ok (.aload_n 0, 1) := by decide +kernel
theorem dX3_fate_18 : decode cX3_fate 18 = .ok (.getfield 20, 3) := by decide +kernel
theorem dX3_fate_21 : decode cX3_fate 21 = .ok (.iload_n 1, 1) := by decide +kernel
theorem dX3_fate_22 : decode cX3_fate 22 = .ok (.invokevirtual 161, 3) := by decide +kernel
theorem dX3_fate_25 : decode cX3_fate 25 = .ok (.aload_n 0, 1) := by decide +kernel
theorem dX3_fate_26 : decode cX3_fate 26 = .ok (.getfield 31, 3) := by decide +kernel
theorem dX3_fate_29 : decode cX3_fate 29 = .ok (.getfield 111, 3) := by decide +kernel
theorem dX3_fate_32 : decode cX3_fate 32 = .ok (.if_icmp .ge 7, 3) := by decide +kernel
theorem dX3_fate_35 : decode cX3_fate 35 = .ok (.iconst 0, 1) := by decide +kernel
theorem dX3_fate_36 : decode cX3_fate 36 = .ok (.goto 4, 3) := by decide +kernel
theorem dX3_fate_39 : decode cX3_fate 39 = .ok (.iconst 2, 1) := by decide +kernel
theorem dX3_fate_40 : decode cX3_fate 40 = .ok (.ireturn, 1) := by decide +kernel
set_option maxRecDepth 20000 in
theorem ggX3_lastEnd_X0_end : GoodIn wsX3_lastEnd wsX0_end := goodIn_r _ [7, 8, 9, 10, 11, 6, 12, 13, 14, 15, 16, 17, 18, 19, 20, 21, 22, 31, 32, 33, 34, 35, 36, 37, 38, 39, 40, 41, 42, 43, 44] (by decide +kernel) (by decide +kernel)
set_option maxRecDepth 20000 in
theorem gX3_lastEnd_X0_end : GoodIn wsX3_lastEnd (wsV RX3 117 RX0 yX0_end wsX0_end) := goodIn_app (goodIn_of _ (by decide +kernel)) ggX3_lastEnd_X0_end
theorem dX3_lastEnd_0 : decode cX3_lastEnd 0 = .ok (.iconst 0, 1) := by decide +kernel
theorem dX3_lastEnd_1 : decode cX3_lastEnd 1 = .ok (.istore_n 2, 1) := by decide +kernel
theorem dX3_lastEnd_2 : decode cX3_lastEnd 2 = .ok (.iconst 0, 1) := by decide +kernel
theorem dX3_lastEnd_3 : decode cX3_lastEnd 3 = .ok (.istore_n 3, 1) := by decide +kernel
theorem dX3_lastEnd_4 : decode cX3_lastEnd 4 = .ok (.iload_n 3, 1) := by decide +kernel
theorem dX3_lastEnd_5 : decode cX3_lastEnd 5 = .ok (.aload_n 0, 1) := by decide +kernel
theorem dX3_lastEnd_6 : decode cX3_lastEnd 6 = .ok (.getfield 20, 3) := by decide +kernel
theorem dX3_lastEnd_9 : decode cX3_lastEnd 9 = .ok (.getfield 80, 3) := by decide +kernel
theorem dX3_lastEnd_12 : decode cX3_lastEnd 12 = .ok (.if_icmp .ge 44, 3) := by decide +kernel
theorem dX3_lastEnd_15 : decode cX3_lastEnd 15 = .ok (.iload_n 1, 1) := by decide +kernel
theorem dX3_lastEnd_16 : decode cX3_lastEnd 16 = .ok (.iload_n 3, 1) := by decide +kernel
theorem dX3_lastEnd_17 : decode cX3_lastEnd 17 = .ok (.ishr, 1) := by decide +kernel
theorem dX3_lastEnd_18 : decode cX3_lastEnd 18 = .ok (.iconst 1, 1) := by decide +kernel
theorem dX3_lastEnd_19 : decode cX3_lastEnd 19 = .ok (.iand, 1) := by decide +kernel
theorem dX3_lastEnd_20 : decode cX3_lastEnd 20 = .ok (.ifCond .eq 14, 3) := by decide +kernel
theorem dX3_lastEnd_23 : decode cX3_lastEnd 23 = .ok (.aload_n 0, 1) := by decide +kernel
theorem dX3_lastEnd_24 : decode cX3_lastEnd 24 = .ok (.getfield 20, 3) := by decide +kernel
theorem dX3_lastEnd_27 : decode cX3_lastEnd 27 = .ok (.iload_n 3, 1) := by decide +kernel
theorem dX3_lastEnd_28 : decode cX3_lastEnd 28 = .ok (.invokevirtual 117, 3) := by decide +kernel
theorem dX3_lastEnd_31 : decode cX3_lastEnd 31 = .ok (.goto 4, 3) := by decide +kernel
theorem dX3_lastEnd_34 : decode cX3_lastEnd 34 = .ok (.iconst 0, 1) := by decide +kernel
theorem dX3_lastEnd_35 : decode cX3_lastEnd 35 = .ok (.istore 4, 2) := by decide +kernel
theorem dX3_lastEnd_37 : decode cX3_lastEnd 37 = .ok (.iload 4, 2) := by decide +kernel
theorem dX3_lastEnd_39 : decode cX3_lastEnd 39 = .ok (.iload_n 2, 1) := by decide +kernel
theorem dX3_lastEnd_40 : decode cX3_lastEnd 40 = .ok (.if_icmp .le 8, 3) := by decide +kernel
theorem dX3_lastEnd_43 : decode cX3_lastEnd 43 = .ok (.iload 4, 2) := by decide +kernel
theorem dX3_lastEnd_45 : decode cX3_lastEnd 45 = .ok (.goto 4, 3) := by decide +kernel
theorem dX3_lastEnd_48 : decode cX3_lastEnd 48 = .ok (.iload_n 2, 1) := by decide +kernel
theorem dX3_lastEnd_49 : decode cX3_lastEnd 49 = .ok (.istore_n 2, 1) := by decide +kernel
theorem dX3_lastEnd_50 : decode cX3_lastEnd 50 = .ok (.iinc 3 1, 3) := by decide +kernel
theorem dX3_lastEnd_53 : decode cX3_lastEnd 53 = .ok (.goto (-49), 3) := by decide +kernel
theorem dX3_lastEnd_56 : decode cX3_lastEnd 56 = .ok (.iload_n 2, 1) := by decide +kernel
theorem dX3_lastEnd_57 : decode cX3_lastEnd 57 = .ok (.ireturn, 1) := by decide +kernel
set_option maxRecDepth 20000 in
theorem ggX3_sightsHold_X3_at : GoodIn wsX3_sightsHold wsX3_at := goodIn_r _ [11] (by decide +kernel) (by decide +kernel)
set_option maxRecDepth 20000 in
theorem gX3_sightsHold_X3_at : GoodIn wsX3_sightsHold (va_wsS RX3 86 yX3_at wsX3_at) := goodIn_app (goodIn_of _ (by decide +kernel)) ggX3_sightsHold_X3_at
set_option maxRecDepth 20000 in
theorem ggX3_sightsHold_X0_floatsBy : GoodIn wsX3_sightsHold wsX0_floatsBy := goodIn_r _ [16, 17, 18, 10, 19, 57, 58, 59, 60, 61, 62, 63, 64, 65, 66, 67, 68, 69, 70] (by decide +kernel) (by decide +kernel)
set_option maxRecDepth 20000 in
theorem gX3_sightsHold_X0_floatsBy : GoodIn wsX3_sightsHold (wsV RX3 141 RX0 yX0_floatsBy wsX0_floatsBy) := goodIn_app (goodIn_of _ (by decide +kernel)) ggX3_sightsHold_X0_floatsBy
set_option maxRecDepth 20000 in
theorem ggX3_sightsHold_X2_plead : GoodIn wsX3_sightsHold wsX2_plead := goodIn_r _ [24, 25, 26, 27, 28, 29, 30, 31, 9, 10, 11, 32, 33, 34, 15, 35, 36, 37, 38, 39, 40, 23, 41, 42, 43, 44, 45, 46, 47, 48, 71, 72, 73, 74, 75, 76, 57, 58, 59, 60, 61, 62, 63, 64, 65, 66, 67, 68, 69, 70] (by decide +kernel) (by decide +kernel)
set_option maxRecDepth 20000 in
theorem gX3_sightsHold_X2_plead : GoodIn wsX3_sightsHold (wsV RX3 175 RX2 yX2_plead wsX2_plead) := goodIn_app (goodIn_of _ (by decide +kernel)) ggX3_sightsHold_X2_plead
theorem dX3_sightsHold_0 : decode cX3_sightsHold 0 = .ok (.iconst 0, 1) := by decide +kernel
theorem dX3_sightsHold_1 : decode cX3_sightsHold 1 = .ok (.istore_n 2, 1) := by decide +kernel
theorem dX3_sightsHold_2 : decode cX3_sightsHold 2 = .ok (.iload_n 2, 1) := by decide +kernel
theorem dX3_sightsHold_3 : decode cX3_sightsHold 3 = .ok (.aload_n 0, 1) := by decide +kernel
theorem dX3_sightsHold_4 : decode cX3_sightsHold 4 = .ok (.getfield 20, 3) := by decide +kernel
theorem dX3_sightsHold_7 : decode cX3_sightsHold 7 = .ok (.getfield 179, 3) := by decide +kernel
theorem dX3_sightsHold_10 : decode cX3_sightsHold 10 = .ok (.if_icmp .ge 74, 3) := by decide +kernel
theorem dX3_sightsHold_13 : decode cX3_sightsHold 13 = .ok (.aload_n 0, 1) := by decide +kernel
theorem dX3_sightsHold_14 : decode cX3_sightsHold 14 = .ok (.getfield 20, 3) := by decide +kernel
theorem dX3_sightsHold_17 : decode cX3_sightsHold 17 = .ok (.aload_n 0, 1) := by decide +kernel
theorem dX3_sightsHold_18 : decode cX3_sightsHold 18 = .ok (.getfield 20, 3) := by decide +kernel
theorem dX3_sightsHold_21 : decode cX3_sightsHold 21 = .ok (.getfield 182, 3) := by decide +kernel
theorem dX3_sightsHold_24 : decode cX3_sightsHold 24 = .ok (.iload_n 2, 1) := by decide +kernel
theorem dX3_sightsHold_25 : decode cX3_sightsHold 25 = .ok (.invokestatic 86, 3) := by decide +kernel
theorem dX3_sightsHold_28 : decode cX3_sightsHold 28 = .ok (.iload_n 1, 1) := by decide +kernel
theorem dX3_sightsHold_29 : decode cX3_sightsHold 29 = .ok (.invokevirtual 141, 3) := by decide +kernel
theorem dX3_sightsHold_32 : decode cX3_sightsHold 32 = .ok (.istore_n 3, 1) := by decide +kernel
theorem dX3_sightsHold_33 : decode cX3_sightsHold 33 = .ok (.aload_n 0, 1) := by decide +kernel
theorem dX3_sightsHold_34 : decode cX3_sightsHold 34 = .ok (.getfield 31, 3) := by decide +kernel
theorem dX3_sightsHold_37 : decode cX3_sightsHold 37 = .ok (.aload_n 0, 1) := by decide +kernel
theorem dX3_sightsHold_38 : decode cX3_sightsHold 38 = .ok (.getfield 20, 3) := by decide +kernel
theorem dX3_sightsHold_41 : decode cX3_sightsHold 41 = .ok (.aload_n 0, 1) := by decide +kernel
theorem dX3_sightsHold_42 : decode cX3_sightsHold 42 = .ok (.getfield 20, 3) := by decide +kernel
theorem dX3_sightsHold_45 : decode cX3_sightsHold 45 = .ok (.getfield 83, 3) := by decide +kernel
theorem dX3_sightsHold_48 : decode cX3_sightsHold 48 = .ok (.iconst 0, 1) := by decide +kernel
theorem dX3_sightsHold_49 : decode cX3_sightsHold 49 = .ok (.iload_n 3, 1) := by decide +kernel
theorem dX3_sightsHold_50 : decode cX3_sightsHold 50 = .ok (.iconst 0, 1) := by decide +kernel
theorem dX3_sightsHold_51 : decode cX3_sightsHold 51 = .ok (.iconst 0, 1) := by decide +kernel
theorem dX3_sightsHold_52 : decode cX3_sightsHold 52 = .ok (.invokevirtual 175, 3) := by decide +kernel
theorem dX3_sightsHold_55 : decode cX3_sightsHold 55 = .ok (.aload_n 0, 1) := by decide +kernel
theorem dX3_sightsHold_56 : decode cX3_sightsHold 56 = .ok (.getfield 31, 3) := by decide +kernel
theorem dX3_sightsHold_59 : decode cX3_sightsHold 59 = .ok (.getfield 111, 3) := by decide +kernel
theorem dX3_sightsHold_62 : decode cX3_sightsHold 62 = .ok (.aload_n 0, 1) := by decide +kernel
theorem dX3_sightsHold_63 : decode cX3_sightsHold 63 = .ok (.getfield 20, 3) := by decide +kernel
theorem dX3_sightsHold_66 : decode cX3_sightsHold 66 = .ok (.getfield 185, 3) := by decide +kernel
theorem dX3_sightsHold_69 : decode cX3_sightsHold 69 = .ok (.iload_n 2, 1) := by decide +kernel
theorem dX3_sightsHold_70 : decode cX3_sightsHold 70 = .ok (.invokestatic 86, 3) := by decide +kernel
theorem dX3_sightsHold_73 : decode cX3_sightsHold 73 = .ok (.if_icmp .eq 5, 3) := by decide +kernel
theorem dX3_sightsHold_76 : decode cX3_sightsHold 76 = .ok (.iconst 0, 1) := by decide +kernel
theorem dX3_sightsHold_77 : decode cX3_sightsHold 77 = .ok (.ireturn, 1) := by decide +kernel
theorem dX3_sightsHold_78 : decode cX3_sightsHold 78 = .ok (.iinc 2 1, 3) := by decide +kernel
theorem dX3_sightsHold_81 : decode cX3_sightsHold 81 = .ok (.goto (-79), 3) := by decide +kernel
theorem dX3_sightsHold_84 : decode cX3_sightsHold 84 = .ok (.iconst 1, 1) := by decide +kernel
theorem dX3_sightsHold_85 : decode cX3_sightsHold 85 = .ok (.ireturn, 1) := by decide +kernel
theorem dX3_burns_0 : decode cX3_burns 0 = .ok (.iload_n 1, 1) := by decide +kernel
theorem dX3_burns_1 : decode cX3_burns 1 = .ok (.ifCond .le 12, 3) := by decide +kernel
theorem dX3_burns_4 : decode cX3_burns 4 = .ok (.bipush 60, 2) := by decide +kernel
theorem dX3_burns_6 : decode cX3_burns 6 = .ok (.iload_n 0, 1) := by decide +kernel
theorem dX3_burns_7 : decode cX3_burns 7 = .ok (.imul, 1) := by decide +kernel
theorem dX3_burns_8 : decode cX3_burns 8 = .ok (.iload_n 1, 1) := by decide +kernel
theorem dX3_burns_9 : decode cX3_burns 9 = .ok (.idiv, 1) := by decide +kernel
theorem dX3_burns_10 : decode cX3_burns 10 = .ok (.goto 4, 3) := by decide +kernel
theorem dX3_burns_13 : decode cX3_burns 13 = .ok (.iconst 0, 1) := by decide +kernel
theorem dX3_burns_14 : decode cX3_burns 14 = .ok (.ireturn, 1) := by decide +kernel
set_option maxRecDepth 20000 in
theorem ggX3_waysOf_J6_bitCount_0f7a4 : GoodIn wsX3_waysOf wsJ6_bitCount_0f7a4 := goodIn_r _ [6, 7, 8, 9] (by decide +kernel) (by decide +kernel)
set_option maxRecDepth 20000 in
theorem gX3_waysOf_J6_bitCount_0f7a4 : GoodIn wsX3_waysOf (va_wsS RX3 221 yJ6_bitCount_0f7a4 wsJ6_bitCount_0f7a4) := goodIn_app (goodIn_of _ (by decide +kernel)) ggX3_waysOf_J6_bitCount_0f7a4
set_option maxRecDepth 20000 in
theorem ggX3_waysOf_X3_power : GoodIn wsX3_waysOf wsX3_power := goodIn_r _ [13] (by decide +kernel) (by decide +kernel)
set_option maxRecDepth 20000 in
theorem gX3_waysOf_X3_power : GoodIn wsX3_waysOf (va_wsS RX3 168 yX3_power wsX3_power) := goodIn_app (goodIn_of _ (by decide +kernel)) ggX3_waysOf_X3_power
theorem dX3_waysOf_0 : decode cX3_waysOf 0 = .ok (.iload_n 1, 1) := by decide +kernel
theorem dX3_waysOf_1 : decode cX3_waysOf 1 = .ok (.invokestatic 221, 3) := by decide +kernel
theorem dX3_waysOf_4 : decode cX3_waysOf 4 = .ok (.istore_n 3, 1) := by decide +kernel
theorem dX3_waysOf_5 : decode cX3_waysOf 5 = .ok (.iload_n 2, 1) := by decide +kernel
theorem dX3_waysOf_6 : decode cX3_waysOf 6 = .ok (.iload_n 3, 1) := by decide +kernel
theorem dX3_waysOf_7 : decode cX3_waysOf 7 = .ok (.invokestatic 168, 3) := by decide +kernel
theorem dX3_waysOf_10 : decode cX3_waysOf 10 = .ok (.bipush 10, 2) := by decide +kernel
theorem dX3_waysOf_12 : decode cX3_waysOf 12 = .ok (.iload_n 2, 1) := by decide +kernel
theorem dX3_waysOf_13 : decode cX3_waysOf 13 = .ok (.isub, 1) := by decide +kernel
theorem dX3_waysOf_14 : decode cX3_waysOf 14 = .ok (.aload_n 0, 1) := by decide +kernel
theorem dX3_waysOf_15 : decode cX3_waysOf 15 = .ok (.getfield 20, 3) := by decide +kernel
theorem dX3_waysOf_18 : decode cX3_waysOf 18 = .ok (.getfield 80, 3) := by decide +kernel
theorem dX3_waysOf_21 : decode cX3_waysOf 21 = .ok (.iload_n 3, 1) := by decide +kernel
theorem dX3_waysOf_22 : decode cX3_waysOf 22 = .ok (.isub, 1) := by decide +kernel
theorem dX3_waysOf_23 : decode cX3_waysOf 23 = .ok (.invokestatic 168, 3) := by decide +kernel
theorem dX3_waysOf_26 : decode cX3_waysOf 26 = .ok (.lmul, 1) := by decide +kernel
theorem dX3_waysOf_27 : decode cX3_waysOf 27 = .ok (.lreturn, 1) := by decide +kernel
theorem dX3_power_0 : decode cX3_power 0 = .ok (.lconst 1, 1) := by decide +kernel
theorem dX3_power_1 : decode cX3_power 1 = .ok (.lstore_n 2, 1) := by decide +kernel
theorem dX3_power_2 : decode cX3_power 2 = .ok (.iconst 0, 1) := by decide +kernel
theorem dX3_power_3 : decode cX3_power 3 = .ok (.istore 4, 2) := by decide +kernel
theorem dX3_power_5 : decode cX3_power 5 = .ok (.iload 4, 2) := by decide +kernel
theorem dX3_power_7 : decode cX3_power 7 = .ok (.iload_n 1, 1) := by decide +kernel
theorem dX3_power_8 : decode cX3_power 8 = .ok (.if_icmp .ge 14, 3) := by decide +kernel
theorem dX3_power_11 : decode cX3_power 11 = .ok (.lload_n 2, 1) := by decide +kernel
theorem dX3_power_12 : decode cX3_power 12 = .ok (.iload_n 0, 1) := by decide +kernel
theorem dX3_power_13 : decode cX3_power 13 = .ok (.i2l, 1) := by decide +kernel
theorem dX3_power_14 : decode cX3_power 14 = .ok (.lmul, 1) := by decide +kernel
theorem dX3_power_15 : decode cX3_power 15 = .ok (.lstore_n 2, 1) := by decide +kernel
theorem dX3_power_16 : decode cX3_power 16 = .ok (.iinc 4 1, 3) := by decide +kernel
theorem dX3_power_19 : decode cX3_power 19 = .ok (.goto (-14), 3) := by decide +kernel
theorem dX3_power_22 : decode cX3_power 22 = .ok (.lload_n 2, 1) := by decide +kernel
theorem dX3_power_23 : decode cX3_power 23 = .ok (.lreturn, 1) := by decide +kernel
theorem dX3_lowest_0 : decode cX3_lowest 0 = .ok (.lload_n 0, 1) := by decide +kernel
theorem dX3_lowest_1 : decode cX3_lowest 1 = .ok (.lstore 5, 2) := by decide +kernel
theorem dX3_lowest_3 : decode cX3_lowest 3 = .ok (.lload_n 2, 1) := by decide +kernel
theorem dX3_lowest_4 : decode cX3_lowest 4 = .ok (.lstore 7, 2) := by decide +kernel
theorem dX3_lowest_6 : decode cX3_lowest 6 = .ok (.iconst 0, 1) := by decide +kernel
theorem dX3_lowest_7 : decode cX3_lowest 7 = .ok (.istore 9, 2) := by decide +kernel
theorem dX3_lowest_9 : decode cX3_lowest 9 = .ok (.iload 9, 2) := by decide +kernel
theorem dX3_lowest_11 : decode cX3_lowest 11 = .ok (.bipush 100, 2) := by decide +kernel
theorem dX3_lowest_13 : decode cX3_lowest 13 = .ok (.if_icmp .ge 31, 3) := by decide +kernel
theorem dX3_lowest_16 : decode cX3_lowest 16 = .ok (.lload 7, 2) := by decide +kernel
theorem dX3_lowest_18 : decode cX3_lowest 18 = .ok (.lconst 0, 1) := by decide +kernel
theorem dX3_lowest_19 : decode cX3_lowest 19 = .ok (.lcmp, 1) := by decide +kernel
theorem dX3_lowest_20 : decode cX3_lowest 20 = .ok (.ifCond .eq 24, 3) := by decide +kernel
theorem dX3_lowest_23 : decode cX3_lowest 23 = .ok (.lload 5, 2) := by decide +kernel
theorem dX3_lowest_25 : decode cX3_lowest 25 = .ok (.lload 7, 2) := by decide +kernel
theorem dX3_lowest_27 : decode cX3_lowest 27 = .ok (.lrem, 1) := by decide +kernel
theorem dX3_lowest_28 : decode cX3_lowest 28 = .ok (.lstore 10, 2) := by decide +kernel
theorem dX3_lowest_30 : decode cX3_lowest 30 = .ok (.lload 7, 2) := by decide +kernel
theorem dX3_lowest_32 : decode cX3_lowest 32 = .ok (.lstore 5, 2) := by decide +kernel
theorem dX3_lowest_34 : decode cX3_lowest 34 = .ok (.lload 10, 2) := by decide +kernel
theorem dX3_lowest_36 : decode cX3_lowest 36 = .ok (.lstore 7, 2) := by decide +kernel
theorem dX3_lowest_38 : decode cX3_lowest 38 = .ok (.iinc 9 1, 3) := by decide +kernel
theorem dX3_lowest_41 : decode cX3_lowest 41 = .ok (.goto (-32), 3) := by decide +kernel
theorem dX3_lowest_44 : decode cX3_lowest 44 = .ok (.iload 4, 2) := by decide +kernel
theorem dX3_lowest_46 : decode cX3_lowest 46 = .ok (.ifCond .ne 7, 3) := by decide +kernel
theorem dX3_lowest_49 : decode cX3_lowest 49 = .ok (.lload_n 0, 1) := by decide +kernel
theorem dX3_lowest_50 : decode cX3_lowest 50 = .ok (.goto 4, 3) := by decide +kernel
theorem dX3_lowest_53 : decode cX3_lowest 53 = .ok (.lload_n 2, 1) := by decide +kernel
theorem dX3_lowest_54 : decode cX3_lowest 54 = .ok (.lstore 9, 2) := by decide +kernel
theorem dX3_lowest_56 : decode cX3_lowest 56 = .ok (.lload 5, 2) := by decide +kernel
theorem dX3_lowest_58 : decode cX3_lowest 58 = .ok (.lconst 0, 1) := by decide +kernel
theorem dX3_lowest_59 : decode cX3_lowest 59 = .ok (.lcmp, 1) := by decide +kernel
theorem dX3_lowest_60 : decode cX3_lowest 60 = .ok (.ifCond .le 11, 3) := by decide +kernel
theorem dX3_lowest_63 : decode cX3_lowest 63 = .ok (.lload 9, 2) := by decide +kernel
theorem dX3_lowest_65 : decode cX3_lowest 65 = .ok (.lload 5, 2) := by decide +kernel
theorem dX3_lowest_67 : decode cX3_lowest 67 = .ok (.ldiv, 1) := by decide +kernel
theorem dX3_lowest_68 : decode cX3_lowest 68 = .ok (.goto 5, 3) := by decide +kernel
theorem dX3_lowest_71 : decode cX3_lowest 71 = .ok (.lload 9, 2) := by decide +kernel
theorem dX3_lowest_73 : decode cX3_lowest 73 = .ok (.lreturn, 1) := by decide +kernel
theorem dX4_init_0 : decode cX4_init 0 = .ok (.aload_n 0, 1) := by decide +kernel
theorem dX4_init_1 : decode cX4_init 1 = .ok (.invokespecial 1, 3) := by decide +kernel
theorem dX4_init_4 : decode cX4_init 4 = .ok (.aload_n 0, 1) := by decide +kernel
theorem dX4_init_5 : decode cX4_init 5 = .ok (.bipush 6, 2) := by decide +kernel
theorem dX4_init_7 : decode cX4_init 7 = .ok (.newarray .int, 2) := by decide +kernel
theorem dX4_init_9 : decode cX4_init 9 = .ok (.putfield 7, 3) := by decide +kernel
theorem dX4_init_12 : decode cX4_init 12 = .ok (.aload_n 0, 1) := by decide +kernel
theorem dX4_init_13 : decode cX4_init 13 = .ok (.bipush 6, 2) := by decide +kernel
theorem dX4_init_15 : decode cX4_init 15 = .ok (.newarray .int, 2) := by decide +kernel
theorem dX4_init_17 : decode cX4_init 17 = .ok (.putfield 13, 3) := by decide +kernel
theorem dX4_init_20 : decode cX4_init 20 = .ok (.aload_n 0, 1) := by decide +kernel
theorem dX4_init_21 : decode cX4_init 21 = .ok (.bipush 6, 2) := by decide +kernel
theorem dX4_init_23 : decode cX4_init 23 = .ok (.newarray .int, 2) := by decide +kernel
theorem dX4_init_25 : decode cX4_init 25 = .ok (.putfield 16, 3) := by decide +kernel
theorem dX4_init_28 : decode cX4_init 28 = .ok (.aload_n 0, 1) := by decide +kernel
theorem dX4_init_29 : decode cX4_init 29 = .ok (.bipush 6, 2) := by decide +kernel
theorem dX4_init_31 : decode cX4_init 31 = .ok (.newarray .int, 2) := by decide +kernel
theorem dX4_init_33 : decode cX4_init 33 = .ok (.putfield 19, 3) := by decide +kernel
theorem dX4_init_36 : decode cX4_init 36 = .ok (.aload_n 0, 1) := by decide +kernel
theorem dX4_init_37 : decode cX4_init 37 = .ok (.bipush 6, 2) := by decide +kernel
theorem dX4_init_39 : decode cX4_init 39 = .ok (.newarray .int, 2) := by decide +kernel
theorem dX4_init_41 : decode cX4_init 41 = .ok (.putfield 22, 3) := by decide +kernel
theorem dX4_init_44 : decode cX4_init 44 = .ok (.aload_n 0, 1) := by decide +kernel
theorem dX4_init_45 : decode cX4_init 45 = .ok (.bipush 6, 2) := by decide +kernel
theorem dX4_init_47 : decode cX4_init 47 = .ok (.newarray .int, 2) := by decide +kernel
theorem dX4_init_49 : decode cX4_init 49 = .ok (.putfield 25, 3) := by decide +kernel
theorem dX4_init_52 : decode cX4_init 52 = .ok (.aload_n 0, 1) := by decide +kernel
theorem dX4_init_53 : decode cX4_init 53 = .ok (.bipush 6, 2) := by decide +kernel
theorem dX4_init_55 : decode cX4_init 55 = .ok (.newarray .int, 2) := by decide +kernel
theorem dX4_init_57 : decode cX4_init 57 = .ok (.putfield 28, 3) := by decide +kernel
theorem dX4_init_60 : decode cX4_init 60 = .ok (.aload_n 0, 1) := by decide +kernel
theorem dX4_init_61 : decode cX4_init 61 = .ok (.bipush 60, 2) := by decide +kernel
theorem dX4_init_63 : decode cX4_init 63 = .ok (.newarray .int, 2) := by decide +kernel
theorem dX4_init_65 : decode cX4_init 65 = .ok (.putfield 31, 3) := by decide +kernel
theorem dX4_init_68 : decode cX4_init 68 = .ok (.aload_n 0, 1) := by decide +kernel
theorem dX4_init_69 : decode cX4_init 69 = .ok (.bipush 6, 2) := by decide +kernel
theorem dX4_init_71 : decode cX4_init 71 = .ok (.newarray .int, 2) := by decide +kernel
theorem dX4_init_73 : decode cX4_init 73 = .ok (.putfield 34, 3) := by decide +kernel
theorem dX4_init_76 : decode cX4_init 76 = .ok (.aload_n 0, 1) := by decide +kernel
theorem dX4_init_77 : decode cX4_init 77 = .ok (.bipush 6, 2) := by decide +kernel
theorem dX4_init_79 : decode cX4_init 79 = .ok (.newarray .int, 2) := by decide +kernel
theorem dX4_init_81 : decode cX4_init 81 = .ok (.putfield 37, 3) := by decide +kernel
theorem dX4_init_84 : decode cX4_init 84 = .ok (.aload_n 0, 1) := by decide +kernel
theorem dX4_init_85 : decode cX4_init 85 = .ok (.iconst 4, 1) := by decide +kernel
theorem dX4_init_86 : decode cX4_init 86 = .ok (.newarray .long, 2) := by decide +kernel
theorem dX4_init_88 : decode cX4_init 88 = .ok (.putfield 40, 3) := by decide +kernel
theorem dX4_init_91 : decode cX4_init 91 = .ok (.aload_n 0, 1) := by decide +kernel
theorem dX4_init_92 : decode cX4_init 92 = .ok (.bipush 6, 2) := by decide +kernel
theorem dX4_init_94 : decode cX4_init 94 = .ok (.newarray .int, 2) := by decide +kernel
theorem dX4_init_96 : decode cX4_init 96 = .ok (.putfield 44, 3) := by decide +kernel
theorem dX4_init_99 : decode cX4_init 99 = .ok (.aload_n 0, 1) := by decide +kernel
theorem dX4_init_100 : decode cX4_init 100 = .ok (.sipush 800, 3) := by decide +kernel
theorem dX4_init_103 : decode cX4_init 103 = .ok (.newarray .boolean, 2) := by decide +kernel
theorem dX4_init_105 : decode cX4_init 105 = .ok (.putfield 47, 3) := by decide +kernel
theorem dX4_init_108 : decode cX4_init 108 = .ok (.aload_n 0, 1) := by decide +kernel
theorem dX4_init_109 : decode cX4_init 109 = .ok (.sipush 800, 3) := by decide +kernel
theorem dX4_init_112 : decode cX4_init 112 = .ok (.newarray .int, 2) := by decide +kernel
theorem dX4_init_114 : decode cX4_init 114 = .ok (.putfield 51, 3) := by decide +kernel
theorem dX4_init_117 : decode cX4_init 117 = .ok (.aload_n 0, 1) := by decide +kernel
theorem dX4_init_118 : decode cX4_init 118 = .ok (.sipush 800, 3) := by decide +kernel
theorem dX4_init_121 : decode cX4_init 121 = .ok (.newarray .int, 2) := by decide +kernel
theorem dX4_init_123 : decode cX4_init 123 = .ok (.putfield 54, 3) := by decide +kernel
theorem dX4_init_126 : decode cX4_init 126 = .ok (.aload_n 0, 1) := by decide +kernel
theorem dX4_init_127 : decode cX4_init 127 = .ok (.bipush 120, 2) := by decide +kernel
theorem dX4_init_129 : decode cX4_init 129 = .ok (.newarray .int, 2) := by decide +kernel
theorem dX4_init_131 : decode cX4_init 131 = .ok (.putfield 57, 3) := by decide +kernel
theorem dX4_init_134 : decode cX4_init 134 = .ok (.aload_n 0, 1) := by decide +kernel
theorem dX4_init_135 : decode cX4_init 135 = .ok (.iconst 2, 1) := by decide +kernel
theorem dX4_init_136 : decode cX4_init 136 = .ok (.newarray .boolean, 2) := by decide +kernel
theorem dX4_init_138 : decode cX4_init 138 = .ok (.putfield 60, 3) := by decide +kernel
theorem dX4_init_141 : decode cX4_init 141 = .ok (.aload_n 0, 1) := by decide +kernel
theorem dX4_init_142 : decode cX4_init 142 = .ok (.bipush 10, 2) := by decide +kernel
theorem dX4_init_144 : decode cX4_init 144 = .ok (.putfield 63, 3) := by decide +kernel
theorem dX4_init_147 : decode cX4_init 147 = .ok (.aload_n 0, 1) := by decide +kernel
theorem dX4_init_148 : decode cX4_init 148 = .ok (.iconst 1, 1) := by decide +kernel
theorem dX4_init_149 : decode cX4_init 149 = .ok (.putfield 67, 3) := by decide +kernel
theorem dX4_init_152 : decode cX4_init 152 = .ok (.return_, 1) := by decide +kernel
theorem dX4_in_0 : decode cX4_in 0 = .ok (.lload_n 0, 1) := by decide +kernel
theorem dX4_in_1 : decode cX4_in 1 = .ok (.lload_n 2, 1) := by decide +kernel
theorem dX4_in_2 : decode cX4_in 2 = .ok (.lcmp, 1) := by decide +kernel
theorem dX4_in_3 : decode cX4_in 3 = .ok (.ifCond .lt 14, 3) := by decide +kernel
theorem dX4_in_6 : decode cX4_in 6 = .ok (.lload_n 0, 1) := by decide +kernel
theorem dX4_in_7 : decode cX4_in 7 = .ok (.lload 4, 2) := by decide +kernel
theorem dX4_in_9 : decode cX4_in 9 = .ok (.lcmp, 1) := by decide +kernel
theorem dX4_in_10 : decode cX4_in 10 = .ok (.ifCond .gt 7, 3) := by decide +kernel
theorem dX4_in_13 : decode cX4_in 13 = .ok (.iconst 1, 1) := by decide +kernel
theorem dX4_in_14 : decode cX4_in 14 = .ok (.goto 4, 3) := by decide +kernel
theorem dX4_in_17 : decode cX4_in 17 = .ok (.iconst 0, 1) := by decide +kernel
theorem dX4_in_18 : decode cX4_in 18 = .ok (.ireturn, 1) := by decide +kernel
set_option maxRecDepth 20000 in
theorem ggX4_set_X4_in : GoodIn wsX4_set wsX4_in := goodIn_r _ [9] (by decide +kernel) (by decide +kernel)
set_option maxRecDepth 20000 in
theorem gX4_set_X4_in : GoodIn wsX4_set (va_wsS RX4 72 yX4_in wsX4_in) := goodIn_app (goodIn_of _ (by decide +kernel)) ggX4_set_X4_in
theorem dX4_set_0 : decode cX4_set 0 = .ok (.iload_n 1, 1) := by decide +kernel
theorem dX4_set_1 : decode cX4_set 1 = .ok (.iconst 2, 1) := by decide +kernel
theorem dX4_set_2 : decode cX4_set 2 = .ok (.if_icmp .ge 7, 3) := by decide +kernel
theorem dX4_set_5 : decode cX4_set 5 = .ok (.iconst 1, 1) := by decide +kernel
theorem dX4_set_6 : decode cX4_set 6 = .ok (.goto 4, 3) := by decide +kernel
theorem dX4_set_9 : decode cX4_set 9 = .ok (.iconst 0, 1) := by decide +kernel
theorem dX4_set_10 : decode cX4_set 10 = .ok (.istore_n 3, 1) := by decide +kernel
theorem dX4_set_11 : decode cX4_set 11 = .ok (.iload_n 1, 1) := by decide +kernel
theorem dX4_set_12 : decode cX4_set 12 = .ok (.ifCond .ne 8, 3) := by decide +kernel
theorem dX4_set_15 : decode cX4_set 15 = .ok (.bipush 99, 2) := by decide +kernel
theorem dX4_set_17 : decode cX4_set 17 = .ok (.goto 25, 3) := by decide +kernel
theorem dX4_set_20 : decode cX4_set 20 = .ok (.iload_n 1, 1) := by decide +kernel
theorem dX4_set_21 : decode cX4_set 21 = .ok (.iconst 1, 1) := by decide +kernel
theorem dX4_set_22 : decode cX4_set 22 = .ok (.if_icmp .ne 8, 3) := by decide +kernel
theorem dX4_set_25 : decode cX4_set 25 = .ok (.bipush 9, 2) := by decide +kernel
theorem dX4_set_27 : decode cX4_set 27 = .ok (.goto 15, 3) := by decide +kernel
theorem dX4_set_30 : decode cX4_set 30 = .ok (.iload_n 1, 1) := by decide +kernel
theorem dX4_set_31 : decode cX4_set 31 = .ok (.iconst 2, 1) := by decide +kernel
theorem dX4_set_32 : decode cX4_set 32 = .ok (.if_icmp .ne 9, 3) := by decide +kernel
theorem dX4_set_35 : decode cX4_set 35 = .ok (.sipush 999, 3) := by decide +kernel
theorem dX4_set_38 : decode cX4_set 38 = .ok (.goto 4, 3) := by decide +kernel
theorem dX4_set_41 : decode cX4_set 41 = .ok (.iconst 1, 1) := by decide +kernel
theorem dX4_set_42 : decode cX4_set 42 = .ok (.istore 4, 2) := by decide +kernel
theorem dX4_set_44 : decode cX4_set 44 = .ok (.iload_n 1, 1) := by decide +kernel
theorem dX4_set_45 : decode cX4_set 45 = .ok (.i2l, 1) := by decide +kernel
theorem dX4_set_46 : decode cX4_set 46 = .ok (.lconst 0, 1) := by decide +kernel
theorem dX4_set_47 : decode cX4_set 47 = .ok (.ldc2_w 70, 3) := by decide +kernel
theorem dX4_set_50 : decode cX4_set 50 = .ok (.invokestatic 72, 3) := by decide +kernel
theorem dX4_set_53 : decode cX4_set 53 = .ok (.ifCond .eq 16, 3) := by decide +kernel
theorem dX4_set_56 : decode cX4_set 56 = .ok (.iload_n 2, 1) := by decide +kernel
theorem dX4_set_57 : decode cX4_set 57 = .ok (.i2l, 1) := by decide +kernel
theorem dX4_set_58 : decode cX4_set 58 = .ok (.iload_n 3, 1) := by decide +kernel
