theorem dX0_init_0 : decode cX0_init 0 = .ok (.aload_n 0, 1) := by decide +kernel
theorem dX0_init_1 : decode cX0_init 1 = .ok (.invokespecial 3, 3) := by decide +kernel
theorem dX0_init_4 : decode cX0_init 4 = .ok (.aload_n 0, 1) := by decide +kernel
theorem dX0_init_5 : decode cX0_init 5 = .ok (.iconst 0, 1) := by decide +kernel
theorem dX0_init_6 : decode cX0_init 6 = .ok (.putfield 9, 3) := by decide +kernel
theorem dX0_init_9 : decode cX0_init 9 = .ok (.aload_n 0, 1) := by decide +kernel
theorem dX0_init_10 : decode cX0_init 10 = .ok (.bipush 8, 2) := by decide +kernel
theorem dX0_init_12 : decode cX0_init 12 = .ok (.newarray .int, 2) := by decide +kernel
theorem dX0_init_14 : decode cX0_init 14 = .ok (.putfield 15, 3) := by decide +kernel
theorem dX0_init_17 : decode cX0_init 17 = .ok (.aload_n 0, 1) := by decide +kernel
theorem dX0_init_18 : decode cX0_init 18 = .ok (.bipush 8, 2) := by decide +kernel
theorem dX0_init_20 : decode cX0_init 20 = .ok (.newarray .int, 2) := by decide +kernel
theorem dX0_init_22 : decode cX0_init 22 = .ok (.putfield 19, 3) := by decide +kernel
theorem dX0_init_25 : decode cX0_init 25 = .ok (.return_, 1) := by decide +kernel
theorem dX0_note_0 : decode cX0_note 0 = .ok (.aload_n 0, 1) := by decide +kernel
theorem dX0_note_1 : decode cX0_note 1 = .ok (.getfield 9, 3) := by decide +kernel
theorem dX0_note_4 : decode cX0_note 4 = .ok (.bipush 8, 2) := by decide +kernel
theorem dX0_note_6 : decode cX0_note 6 = .ok (.if_icmp .lt 39, 3) := by decide +kernel
theorem dX0_note_9 : decode cX0_note 9 = .ok (.aload_n 0, 1) := by decide +kernel
theorem dX0_note_10 : decode cX0_note 10 = .ok (.getfield 15, 3) := by decide +kernel
theorem dX0_note_13 : decode cX0_note 13 = .ok (.iconst 1, 1) := by decide +kernel
theorem dX0_note_14 : decode cX0_note 14 = .ok (.aload_n 0, 1) := by decide +kernel
theorem dX0_note_15 : decode cX0_note 15 = .ok (.getfield 15, 3) := by decide +kernel
theorem dX0_note_18 : decode cX0_note 18 = .ok (.iconst 0, 1) := by decide +kernel
theorem dX0_note_19 : decode cX0_note 19 = .ok (.bipush 7, 2) := by decide +kernel
theorem dX0_note_21 : decode cX0_note 21 = .ok (.invokestatic 22, 3) := by decide +kernel
theorem dX0_note_24 : decode cX0_note 24 = .ok (.aload_n 0, 1) := by decide +kernel
theorem dX0_note_25 : decode cX0_note 25 = .ok (.getfield 19, 3) := by decide +kernel
theorem dX0_note_28 : decode cX0_note 28 = .ok (.iconst 1, 1) := by decide +kernel
theorem dX0_note_29 : decode cX0_note 29 = .ok (.aload_n 0, 1) := by decide +kernel
theorem dX0_note_30 : decode cX0_note 30 = .ok (.getfield 19, 3) := by decide +kernel
theorem dX0_note_33 : decode cX0_note 33 = .ok (.iconst 0, 1) := by decide +kernel
theorem dX0_note_34 : decode cX0_note 34 = .ok (.bipush 7, 2) := by decide +kernel
theorem dX0_note_36 : decode cX0_note 36 = .ok (.invokestatic 22, 3) := by decide +kernel
theorem dX0_note_39 : decode cX0_note 39 = .ok (.aload_n 0, 1) := by decide +kernel
theorem dX0_note_40 : decode cX0_note 40 = .ok (.bipush 7, 2) := by decide +kernel
theorem dX0_note_42 : decode cX0_note 42 = .ok (.putfield 9, 3) := by decide +kernel
theorem dX0_note_45 : decode cX0_note 45 = .ok (.aload_n 0, 1) := by decide +kernel
theorem dX0_note_46 : decode cX0_note 46 = .ok (.getfield 15, 3) := by decide +kernel
theorem dX0_note_49 : decode cX0_note 49 = .ok (.aload_n 0, 1) := by decide +kernel
theorem dX0_note_50 : decode cX0_note 50 = .ok (.getfield 9, 3) := by decide +kernel
theorem dX0_note_53 : decode cX0_note 53 = .ok (.iload_n 1, 1) := by decide +kernel
theorem dX0_note_54 : decode cX0_note 54 = .ok (.iastore, 1) := by decide +kernel
theorem dX0_note_55 : decode cX0_note 55 = .ok (.aload_n 0, 1) := by decide +kernel
theorem dX0_note_56 : decode cX0_note 56 = .ok (.getfield 19, 3) := by decide +kernel
theorem dX0_note_59 : decode cX0_note 59 = .ok (.aload_n 0, 1) := by decide +kernel
theorem dX0_note_60 : decode cX0_note 60 = .ok (.getfield 9, 3) := by decide +kernel
theorem dX0_note_63 : decode cX0_note 63 = .ok (.iload_n 2, 1) := by decide +kernel
theorem dX0_note_64 : decode cX0_note 64 = .ok (.iastore, 1) := by decide +kernel
theorem dX0_note_65 : decode cX0_note 65 = .ok (.aload_n 0, 1) := by decide +kernel
theorem dX0_note_66 : decode cX0_note 66 = .ok (.dup, 1) := by decide +kernel
theorem dX0_note_67 : decode cX0_note 67 = .ok (.getfield 9, 3) := by decide +kernel
theorem dX0_note_70 : decode cX0_note 70 = .ok (.iconst 1, 1) := by decide +kernel
theorem dX0_note_71 : decode cX0_note 71 = .ok (.iadd, 1) := by decide +kernel
theorem dX0_note_72 : decode cX0_note 72 = .ok (.putfield 9, 3) := by decide +kernel
theorem dX0_note_75 : decode cX0_note 75 = .ok (.return_, 1) := by decide +kernel
theorem dX0_takeBack_0 : decode cX0_takeBack 0 = .ok (.aload_n 0, 1) := by decide +kernel
theorem dX0_takeBack_1 : decode cX0_takeBack 1 = .ok (.getfield 9, 3) := by decide +kernel
theorem dX0_takeBack_4 : decode cX0_takeBack 4 = .ok (.iconst 1, 1) := by decide +kernel
theorem dX0_takeBack_5 : decode cX0_takeBack 5 = .ok (.if_icmp .ge 5, 3) := by decide +kernel
theorem dX0_takeBack_8 : decode cX0_takeBack 8 = .ok (.iconst 0, 1) := by decide +kernel
theorem dX0_takeBack_9 : decode cX0_takeBack 9 = .ok (.ireturn, 1) := by decide +kernel
theorem dX0_takeBack_10 : decode cX0_takeBack 10 = .ok (.aload_n 0, 1) := by decide +kernel
theorem dX0_takeBack_11 : decode cX0_takeBack 11 = .ok (.dup, 1) := by decide +kernel
theorem dX0_takeBack_12 : decode cX0_takeBack 12 = .ok (.getfield 9, 3) := by decide +kernel
theorem dX0_takeBack_15 : decode cX0_takeBack 15 = .ok (.iconst 1, 1) := by decide +kernel
theorem dX0_takeBack_16 : decode cX0_takeBack 16 = .ok (.isub, 1) := by decide +kernel
theorem dX0_takeBack_17 : decode cX0_takeBack 17 = .ok (.putfield 9, 3) := by decide +kernel
theorem dX0_takeBack_20 : decode cX0_takeBack 20 = .ok (.aload_n 0, 1) := by decide +kernel
theorem dX0_takeBack_21 : decode cX0_takeBack 21 = .ok (.getfield 15, 3) := by decide +kernel
theorem dX0_takeBack_24 : decode cX0_takeBack 24 = .ok (.aload_n 0, 1) := by decide +kernel
theorem dX0_takeBack_25 : decode cX0_takeBack 25 = .ok (.getfield 9, 3) := by decide +kernel
theorem dX0_takeBack_28 : decode cX0_takeBack 28 = .ok (.iaload, 1) := by decide +kernel
theorem dX0_takeBack_29 : decode cX0_takeBack 29 = .ok (.istore_n 2, 1) := by decide +kernel
theorem dX0_takeBack_30 : decode cX0_takeBack 30 = .ok (.iload_n 2, 1) := by decide +kernel
theorem dX0_takeBack_31 : decode cX0_takeBack 31 = .ok (.iconst (-1), 1) := by decide +kernel
theorem dX0_takeBack_32 : decode cX0_takeBack 32 = .ok (.if_icmp .eq 21, 3) := by decide +kernel
theorem dX0_takeBack_35 : decode cX0_takeBack 35 = .ok (.aload_n 1, 1) := by decide +kernel
theorem dX0_takeBack_36 : decode cX0_takeBack 36 = .ok (.getfield 28, 3) := by decide +kernel
theorem dX0_takeBack_39 : decode cX0_takeBack 39 = .ok (.iload_n 2, 1) := by decide +kernel
theorem dX0_takeBack_40 : decode cX0_takeBack 40 = .ok (.aload_n 0, 1) := by decide +kernel
theorem dX0_takeBack_41 : decode cX0_takeBack 41 = .ok (.getfield 19, 3) := by decide +kernel
theorem dX0_takeBack_44 : decode cX0_takeBack 44 = .ok (.aload_n 0, 1) := by decide +kernel
theorem dX0_takeBack_45 : decode cX0_takeBack 45 = .ok (.getfield 9, 3) := by decide +kernel
theorem dX0_takeBack_48 : decode cX0_takeBack 48 = .ok (.iaload, 1) := by decide +kernel
theorem dX0_takeBack_49 : decode cX0_takeBack 49 = .ok (.iastore, 1) := by decide +kernel
theorem dX0_takeBack_50 : decode cX0_takeBack 50 = .ok (.goto 20, 3) := by decide +kernel
theorem dX0_takeBack_53 : decode cX0_takeBack 53 = .ok (.aload_n 1, 1) := by decide +kernel
theorem dX0_takeBack_54 : decode cX0_takeBack 54 = .ok (.getfield 33, 3) := by decide +kernel
theorem dX0_takeBack_57 : decode cX0_takeBack 57 = .ok (.ifCond .le 13, 3) := by decide +kernel
theorem dX0_takeBack_60 : decode cX0_takeBack 60 = .ok (.aload_n 1, 1) := by decide +kernel
theorem dX0_takeBack_61 : decode cX0_takeBack 61 = .ok (.dup, 1) := by decide +kernel
theorem dX0_takeBack_62 : decode cX0_takeBack 62 = .ok (.getfield 33, 3) := by decide +kernel
theorem dX0_takeBack_65 : decode cX0_takeBack 65 = .ok (.iconst 1, 1) := by decide +kernel
theorem dX0_takeBack_66 : decode cX0_takeBack 66 = .ok (.isub, 1) := by decide +kernel
theorem dX0_takeBack_67 : decode cX0_takeBack 67 = .ok (.putfield 33, 3) := by decide +kernel
theorem dX0_takeBack_70 : decode cX0_takeBack 70 = .ok (.iconst 1, 1) := by decide +kernel
theorem dX0_takeBack_71 : decode cX0_takeBack 71 = .ok (.ireturn, 1) := by decide +kernel
theorem dX1_init_0 : decode cX1_init 0 = .ok (.aload_n 0, 1) := by decide +kernel
theorem dX1_init_1 : decode cX1_init 1 = .ok (.invokespecial 3, 3) := by decide +kernel
theorem dX1_init_4 : decode cX1_init 4 = .ok (.aload_n 0, 1) := by decide +kernel
theorem dX1_init_5 : decode cX1_init 5 = .ok (.iconst 5, 1) := by decide +kernel
theorem dX1_init_6 : decode cX1_init 6 = .ok (.bipush 61, 2) := by decide +kernel
theorem dX1_init_8 : decode cX1_init 8 = .ok (.multianewarray 9 2, 4) := by decide +kernel
theorem dX1_init_12 : decode cX1_init 12 = .ok (.putfield 11, 3) := by decide +kernel
theorem dX1_init_15 : decode cX1_init 15 = .ok (.aload_n 0, 1) := by decide +kernel
theorem dX1_init_16 : decode cX1_init 16 = .ok (.iconst 5, 1) := by decide +kernel
theorem dX1_init_17 : decode cX1_init 17 = .ok (.newarray .int, 2) := by decide +kernel
theorem dX1_init_19 : decode cX1_init 19 = .ok (.putfield 16, 3) := by decide +kernel
theorem dX1_init_22 : decode cX1_init 22 = .ok (.aload_n 0, 1) := by decide +kernel
theorem dX1_init_23 : decode cX1_init 23 = .ok (.iconst 5, 1) := by decide +kernel
theorem dX1_init_24 : decode cX1_init 24 = .ok (.newarray .int, 2) := by decide +kernel
theorem dX1_init_26 : decode cX1_init 26 = .ok (.putfield 20, 3) := by decide +kernel
theorem dX1_init_29 : decode cX1_init 29 = .ok (.aload_n 0, 1) := by decide +kernel
theorem dX1_init_30 : decode cX1_init 30 = .ok (.iconst 5, 1) := by decide +kernel
theorem dX1_init_31 : decode cX1_init 31 = .ok (.newarray .int, 2) := by decide +kernel
theorem dX1_init_33 : decode cX1_init 33 = .ok (.putfield 23, 3) := by decide +kernel
theorem dX1_init_36 : decode cX1_init 36 = .ok (.return_, 1) := by decide +kernel
set_option maxRecDepth 20000 in
theorem ggX1_run_J7_fill_53178 : GoodIn wsX1_run wsJ7_fill_53178 := goodIn_r _ [15] (by decide +kernel) (by decide +kernel)
set_option maxRecDepth 20000 in
theorem gX1_run_J7_fill_53178 : GoodIn wsX1_run (va_wsS RX1 26 yJ7_fill_53178 wsJ7_fill_53178) := goodIn_app (goodIn_of _ (by decide +kernel)) ggX1_run_J7_fill_53178
set_option maxRecDepth 20000 in
theorem ggX1_run_X7_walk : GoodIn wsX1_run wsX7_walk := goodIn_r _ [20, 21, 22, 23, 24, 19, 25, 26, 27, 28, 29, 30, 31, 32, 33, 34, 35, 36, 37, 38, 62, 63, 64, 65, 66, 67, 68, 69, 70] (by decide +kernel) (by decide +kernel)
set_option maxRecDepth 20000 in
theorem gX1_run_X7_walk : GoodIn wsX1_run (wsV RX1 41 RX7 yX7_walk wsX7_walk) := goodIn_app (goodIn_of _ (by decide +kernel)) ggX1_run_X7_walk
set_option maxRecDepth 20000 in
theorem ggX1_run_X1_lookFor : GoodIn wsX1_run wsX1_lookFor := goodIn_r _ [43, 4, 2, 1, 6, 3, 44, 45, 46, 19, 47, 48, 49, 50, 51, 52, 53, 54, 55, 56, 57, 62, 63, 64, 65, 66, 67, 68, 69, 70, 58, 59, 60, 61] (by decide +kernel) (by decide +kernel)
set_option maxRecDepth 20000 in
theorem gX1_run_X1_lookFor : GoodIn wsX1_run (wsV RX1 63 RX1 yX1_lookFor wsX1_lookFor) := goodIn_app (goodIn_of _ (by decide +kernel)) ggX1_run_X1_lookFor
theorem dX1_run_0 : decode cX1_run 0 = .ok (.aload_n 0, 1) := by decide +kernel
theorem dX1_run_1 : decode cX1_run 1 = .ok (.getfield 16, 3) := by decide +kernel
theorem dX1_run_4 : decode cX1_run 4 = .ok (.bipush (-4), 2) := by decide +kernel
theorem dX1_run_6 : decode cX1_run 6 = .ok (.invokestatic 26, 3) := by decide +kernel
theorem dX1_run_9 : decode cX1_run 9 = .ok (.aload_n 0, 1) := by decide +kernel
theorem dX1_run_10 : decode cX1_run 10 = .ok (.getfield 20, 3) := by decide +kernel
theorem dX1_run_13 : decode cX1_run 13 = .ok (.bipush (-4), 2) := by decide +kernel
theorem dX1_run_15 : decode cX1_run 15 = .ok (.invokestatic 26, 3) := by decide +kernel
theorem dX1_run_18 : decode cX1_run 18 = .ok (.aload_n 0, 1) := by decide +kernel
theorem dX1_run_19 : decode cX1_run 19 = .ok (.getfield 23, 3) := by decide +kernel
theorem dX1_run_22 : decode cX1_run 22 = .ok (.bipush (-4), 2) := by decide +kernel
theorem dX1_run_24 : decode cX1_run 24 = .ok (.invokestatic 26, 3) := by decide +kernel
theorem dX1_run_27 : decode cX1_run 27 = .ok (.iconst 0, 1) := by decide +kernel
theorem dX1_run_28 : decode cX1_run 28 = .ok (.istore_n 3, 1) := by decide +kernel
theorem dX1_run_29 : decode cX1_run 29 = .ok (.iload_n 3, 1) := by decide +kernel
theorem dX1_run_30 : decode cX1_run 30 = .ok (.aload_n 1, 1) := by decide +kernel
theorem dX1_run_31 : decode cX1_run 31 = .ok (.getfield 32, 3) := by decide +kernel
theorem dX1_run_34 : decode cX1_run 34 = .ok (.if_icmp .ge 28, 3) := by decide +kernel
theorem dX1_run_37 : decode cX1_run 37 = .ok (.aload_n 1, 1) := by decide +kernel
theorem dX1_run_38 : decode cX1_run 38 = .ok (.aload_n 2, 1) := by decide +kernel
theorem dX1_run_39 : decode cX1_run 39 = .ok (.iload_n 3, 1) := by decide +kernel
theorem dX1_run_40 : decode cX1_run 40 = .ok (.iaload, 1) := by decide +kernel
theorem dX1_run_41 : decode cX1_run 41 = .ok (.aload_n 1, 1) := by decide +kernel
theorem dX1_run_42 : decode cX1_run 42 = .ok (.getfield 38, 3) := by decide +kernel
theorem dX1_run_45 : decode cX1_run 45 = .ok (.iload_n 3, 1) := by decide +kernel
theorem dX1_run_46 : decode cX1_run 46 = .ok (.iaload, 1) := by decide +kernel
theorem dX1_run_47 : decode cX1_run 47 = .ok (.aload_n 0, 1) := by decide +kernel
theorem dX1_run_48 : decode cX1_run 48 = .ok (.getfield 11, 3) := by decide +kernel
theorem dX1_run_51 : decode cX1_run 51 = .ok (.iload_n 3, 1) := by decide +kernel
theorem dX1_run_52 : decode cX1_run 52 = .ok (.aaload, 1) := by decide +kernel
theorem dX1_run_53 : decode cX1_run 53 = .ok (.invokevirtual 41, 3) := by decide +kernel
theorem dX1_run_56 : decode cX1_run 56 = .ok (.iinc 3 1, 3) := by decide +kernel
theorem dX1_run_59 : decode cX1_run 59 = .ok (.goto (-30), 3) := by decide +kernel
theorem dX1_run_62 : decode cX1_run 62 = .ok (.aload_n 1, 1) := by decide +kernel
theorem dX1_run_63 : decode cX1_run 63 = .ok (.getfield 45, 3) := by decide +kernel
theorem dX1_run_66 : decode cX1_run 66 = .ok (.astore_n 3, 1) := by decide +kernel
theorem dX1_run_67 : decode cX1_run 67 = .ok (.iconst 1, 1) := by decide +kernel
theorem dX1_run_68 : decode cX1_run 68 = .ok (.istore 4, 2) := by decide +kernel
theorem dX1_run_70 : decode cX1_run 70 = .ok (.iload 4, 2) := by decide +kernel
theorem dX1_run_72 : decode cX1_run 72 = .ok (.bipush 60, 2) := by decide +kernel
theorem dX1_run_74 : decode cX1_run 74 = .ok (.if_icmp .gt 60, 3) := by decide +kernel
theorem dX1_run_77 : decode cX1_run 77 = .ok (.iconst 0, 1) := by decide +kernel
theorem dX1_run_78 : decode cX1_run 78 = .ok (.istore 5, 2) := by decide +kernel
theorem dX1_run_80 : decode cX1_run 80 = .ok (.iload 5, 2) := by decide +kernel
theorem dX1_run_82 : decode cX1_run 82 = .ok (.aload_n 3, 1) := by decide +kernel
theorem dX1_run_83 : decode cX1_run 83 = .ok (.getfield 49, 3) := by decide +kernel
theorem dX1_run_86 : decode cX1_run 86 = .ok (.if_icmp .ge 42, 3) := by decide +kernel
theorem dX1_run_89 : decode cX1_run 89 = .ok (.aload_n 3, 1) := by decide +kernel
theorem dX1_run_90 : decode cX1_run 90 = .ok (.getfield 54, 3) := by decide +kernel
theorem dX1_run_93 : decode cX1_run 93 = .ok (.iload 5, 2) := by decide +kernel
theorem dX1_run_95 : decode cX1_run 95 = .ok (.iaload, 1) := by decide +kernel
theorem dX1_run_96 : decode cX1_run 96 = .ok (.iload 4, 2) := by decide +kernel
theorem dX1_run_98 : decode cX1_run 98 = .ok (.if_icmp .ne 24, 3) := by decide +kernel
theorem dX1_run_101 : decode cX1_run 101 = .ok (.aload_n 0, 1) := by decide +kernel
theorem dX1_run_102 : decode cX1_run 102 = .ok (.aload_n 1, 1) := by decide +kernel
theorem dX1_run_103 : decode cX1_run 103 = .ok (.aload_n 3, 1) := by decide +kernel
theorem dX1_run_104 : decode cX1_run 104 = .ok (.getfield 57, 3) := by decide +kernel
theorem dX1_run_107 : decode cX1_run 107 = .ok (.iload 5, 2) := by decide +kernel
theorem dX1_run_109 : decode cX1_run 109 = .ok (.iaload, 1) := by decide +kernel
theorem dX1_run_110 : decode cX1_run 110 = .ok (.aload_n 3, 1) := by decide +kernel
theorem dX1_run_111 : decode cX1_run 111 = .ok (.getfield 60, 3) := by decide +kernel
theorem dX1_run_114 : decode cX1_run 114 = .ok (.iload 5, 2) := by decide +kernel
theorem dX1_run_116 : decode cX1_run 116 = .ok (.iaload, 1) := by decide +kernel
theorem dX1_run_117 : decode cX1_run 117 = .ok (.iload 4, 2) := by decide +kernel
theorem dX1_run_119 : decode cX1_run 119 = .ok (.invokevirtual 63, 3) := by decide +kernel
theorem dX1_run_122 : decode cX1_run 122 = .ok (.iinc 5 1, 3) := by decide +kernel
theorem dX1_run_125 : decode cX1_run 125 = .ok (.goto (-45), 3) := by decide +kernel
theorem dX1_run_128 : decode cX1_run 128 = .ok (.iinc 4 1, 3) := by decide +kernel
theorem dX1_run_131 : decode cX1_run 131 = .ok (.goto (-61), 3) := by decide +kernel
theorem dX1_run_134 : decode cX1_run 134 = .ok (.return_, 1) := by decide +kernel
set_option maxRecDepth 20000 in
theorem ggX1_lookFor_X7_suits : GoodIn wsX1_lookFor wsX7_suits := goodIn_r _ [10, 11, 12, 13, 14, 15, 16, 17, 18, 9, 19, 20, 21, 22, 23, 24, 25, 26, 27, 28, 29] (by decide +kernel) (by decide +kernel)
set_option maxRecDepth 20000 in
theorem gX1_lookFor_X7_suits : GoodIn wsX1_lookFor (wsV RX1 67 RX7 yX7_suits wsX7_suits) := goodIn_app (goodIn_of _ (by decide +kernel)) ggX1_lookFor_X7_suits
theorem dX1_lookFor_0 : decode cX1_lookFor 0 = .ok (.iconst 0, 1) := by decide +kernel
theorem dX1_lookFor_1 : decode cX1_lookFor 1 = .ok (.istore 5, 2) := by decide +kernel
theorem dX1_lookFor_3 : decode cX1_lookFor 3 = .ok (.iload 5, 2) := by decide +kernel
theorem dX1_lookFor_5 : decode cX1_lookFor 5 = .ok (.aload_n 1, 1) := by decide +kernel
theorem dX1_lookFor_6 : decode cX1_lookFor 6 = .ok (.getfield 32, 3) := by decide +kernel
theorem dX1_lookFor_9 : decode cX1_lookFor 9 = .ok (.if_icmp .ge 82, 3) := by decide +kernel
theorem dX1_lookFor_12 : decode cX1_lookFor 12 = .ok (.aload_n 0, 1) := by decide +kernel
theorem dX1_lookFor_13 : decode cX1_lookFor 13 = .ok (.getfield 20, 3) := by decide +kernel
theorem dX1_lookFor_16 : decode cX1_lookFor 16 = .ok (.iload_n 2, 1) := by decide +kernel
theorem dX1_lookFor_17 : decode cX1_lookFor 17 = .ok (.iaload, 1) := by decide +kernel
theorem dX1_lookFor_18 : decode cX1_lookFor 18 = .ok (.bipush (-4), 2) := by decide +kernel
theorem dX1_lookFor_20 : decode cX1_lookFor 20 = .ok (.if_icmp .ne 71, 3) := by decide +kernel
theorem dX1_lookFor_23 : decode cX1_lookFor 23 = .ok (.aload_n 0, 1) := by decide +kernel
theorem dX1_lookFor_24 : decode cX1_lookFor 24 = .ok (.getfield 16, 3) := by decide +kernel
theorem dX1_lookFor_27 : decode cX1_lookFor 27 = .ok (.iload 5, 2) := by decide +kernel
theorem dX1_lookFor_29 : decode cX1_lookFor 29 = .ok (.iaload, 1) := by decide +kernel
theorem dX1_lookFor_30 : decode cX1_lookFor 30 = .ok (.bipush (-4), 2) := by decide +kernel
theorem dX1_lookFor_32 : decode cX1_lookFor 32 = .ok (.if_icmp .ne 53, 3) := by decide +kernel
theorem dX1_lookFor_35 : decode cX1_lookFor 35 = .ok (.aload_n 0, 1) := by decide +kernel
theorem dX1_lookFor_36 : decode cX1_lookFor 36 = .ok (.getfield 11, 3) := by decide +kernel
theorem dX1_lookFor_39 : decode cX1_lookFor 39 = .ok (.iload 5, 2) := by decide +kernel
theorem dX1_lookFor_41 : decode cX1_lookFor 41 = .ok (.aaload, 1) := by decide +kernel
theorem dX1_lookFor_42 : decode cX1_lookFor 42 = .ok (.iload 4, 2) := by decide +kernel
theorem dX1_lookFor_44 : decode cX1_lookFor 44 = .ok (.iaload, 1) := by decide +kernel
theorem dX1_lookFor_45 : decode cX1_lookFor 45 = .ok (.iload_n 3, 1) := by decide +kernel
theorem dX1_lookFor_46 : decode cX1_lookFor 46 = .ok (.if_icmp .ne 39, 3) := by decide +kernel
theorem dX1_lookFor_49 : decode cX1_lookFor 49 = .ok (.aload_n 1, 1) := by decide +kernel
theorem dX1_lookFor_50 : decode cX1_lookFor 50 = .ok (.iload_n 2, 1) := by decide +kernel
theorem dX1_lookFor_51 : decode cX1_lookFor 51 = .ok (.iload 5, 2) := by decide +kernel
theorem dX1_lookFor_53 : decode cX1_lookFor 53 = .ok (.iload 4, 2) := by decide +kernel
theorem dX1_lookFor_55 : decode cX1_lookFor 55 = .ok (.invokevirtual 67, 3) := by decide +kernel
theorem dX1_lookFor_58 : decode cX1_lookFor 58 = .ok (.ifCond .eq 27, 3) := by decide +kernel
theorem dX1_lookFor_61 : decode cX1_lookFor 61 = .ok (.aload_n 0, 1) := by decide +kernel
theorem dX1_lookFor_62 : decode cX1_lookFor 62 = .ok (.getfield 16, 3) := by decide +kernel
theorem dX1_lookFor_65 : decode cX1_lookFor 65 = .ok (.iload 5, 2) := by decide +kernel
theorem dX1_lookFor_67 : decode cX1_lookFor 67 = .ok (.iload_n 2, 1) := by decide +kernel
theorem dX1_lookFor_68 : decode cX1_lookFor 68 = .ok (.iastore, 1) := by decide +kernel
theorem dX1_lookFor_69 : decode cX1_lookFor 69 = .ok (.aload_n 0, 1) := by decide +kernel
theorem dX1_lookFor_70 : decode cX1_lookFor 70 = .ok (.getfield 20, 3) := by decide +kernel
theorem dX1_lookFor_73 : decode cX1_lookFor 73 = .ok (.iload_n 2, 1) := by decide +kernel
theorem dX1_lookFor_74 : decode cX1_lookFor 74 = .ok (.iload 5, 2) := by decide +kernel
theorem dX1_lookFor_76 : decode cX1_lookFor 76 = .ok (.iastore, 1) := by decide +kernel
theorem dX1_lookFor_77 : decode cX1_lookFor 77 = .ok (.aload_n 0, 1) := by decide +kernel
theorem dX1_lookFor_78 : decode cX1_lookFor 78 = .ok (.getfield 23, 3) := by decide +kernel
theorem dX1_lookFor_81 : decode cX1_lookFor 81 = .ok (.iload_n 2, 1) := by decide +kernel
theorem dX1_lookFor_82 : decode cX1_lookFor 82 = .ok (.iload 4, 2) := by decide +kernel
theorem dX1_lookFor_84 : decode cX1_lookFor 84 = .ok (.iastore, 1) := by decide +kernel
theorem dX1_lookFor_85 : decode cX1_lookFor 85 = .ok (.iinc 5 1, 3) := by decide +kernel
theorem dX1_lookFor_88 : decode cX1_lookFor 88 = .ok (.goto (-85), 3) := by decide +kernel
theorem dX1_lookFor_91 : decode cX1_lookFor 91 = .ok (.return_, 1) := by decide +kernel
theorem dX1_isFoundBefore_0 : decode cX1_isFoundBefore 0 = .ok (.aload_n 0, 1) := by decide +kernel
theorem dX1_isFoundBefore_1 : decode cX1_isFoundBefore 1 = .ok (.getfield 16, 3) := by decide +kernel
theorem dX1_isFoundBefore_4 : decode cX1_isFoundBefore 4 = .ok (.iload_n 1, 1) := by decide +kernel
theorem dX1_isFoundBefore_5 : decode cX1_isFoundBefore 5 = .ok (.iaload, 1) := by decide +kernel
theorem dX1_isFoundBefore_6 : decode cX1_isFoundBefore 6 = .ok (.bipush (-4), 2) := by decide +kernel
theorem dX1_isFoundBefore_8 : decode cX1_isFoundBefore 8 = .ok (.if_icmp .eq 22, 3) := by decide +kernel
theorem dX1_isFoundBefore_11 : decode cX1_isFoundBefore 11 = .ok (.aload_n 0, 1) := by decide +kernel
theorem dX1_isFoundBefore_12 : decode cX1_isFoundBefore 12 = .ok (.getfield 23, 3) := by decide +kernel
theorem dX1_isFoundBefore_15 : decode cX1_isFoundBefore 15 = .ok (.aload_n 0, 1) := by decide +kernel
theorem dX1_isFoundBefore_16 : decode cX1_isFoundBefore 16 = .ok (.getfield 16, 3) := by decide +kernel
theorem dX1_isFoundBefore_19 : decode cX1_isFoundBefore 19 = .ok (.iload_n 1, 1) := by decide +kernel
theorem dX1_isFoundBefore_20 : decode cX1_isFoundBefore 20 = .ok (.iaload, 1) := by decide +kernel
theorem dX1_isFoundBefore_21 : decode cX1_isFoundBefore 21 = .ok (.iaload, 1) := by decide +kernel
theorem dX1_isFoundBefore_22 : decode cX1_isFoundBefore 22 = .ok (.iload_n 2, 1) := by decide +kernel
theorem dX1_isFoundBefore_23 : decode cX1_isFoundBefore 23 = .ok (.if_icmp .ge 7, 3) := by decide +kernel
theorem dX1_isFoundBefore_26 : decode cX1_isFoundBefore 26 = .ok (.iconst 1, 1) := by decide +kernel
theorem dX1_isFoundBefore_27 : decode cX1_isFoundBefore 27 = .ok (.goto 4, 3) := by decide +kernel
theorem dX1_isFoundBefore_30 : decode cX1_isFoundBefore 30 = .ok (.iconst 0, 1) := by decide +kernel
theorem dX1_isFoundBefore_31 : decode cX1_isFoundBefore 31 = .ok (.ireturn, 1) := by decide +kernel
set_option maxRecDepth 20000 in
theorem ggX1_leaveDay_X7_tideFrom : GoodIn wsX1_leaveDay wsX7_tideFrom := goodIn_r _ [6, 7, 12, 13, 14, 15, 16, 17, 18, 19, 20] (by decide +kernel) (by decide +kernel)
set_option maxRecDepth 20000 in
theorem gX1_leaveDay_X7_tideFrom : GoodIn wsX1_leaveDay (wsV RX1 71 RX7 yX7_tideFrom wsX7_tideFrom) := goodIn_app (goodIn_of _ (by decide +kernel)) ggX1_leaveDay_X7_tideFrom
theorem dX1_leaveDay_0 : decode cX1_leaveDay 0 = .ok (.aload_n 0, 1) := by decide +kernel
theorem dX1_leaveDay_1 : decode cX1_leaveDay 1 = .ok (.getfield 23, 3) := by decide +kernel
theorem dX1_leaveDay_4 : decode cX1_leaveDay 4 = .ok (.iload_n 1, 1) := by decide +kernel
theorem dX1_leaveDay_5 : decode cX1_leaveDay 5 = .ok (.iaload, 1) := by decide +kernel
theorem dX1_leaveDay_6 : decode cX1_leaveDay 6 = .ok (.bipush (-4), 2) := by decide +kernel
theorem dX1_leaveDay_8 : decode cX1_leaveDay 8 = .ok (.if_icmp .ne 8, 3) := by decide +kernel
theorem dX1_leaveDay_11 : decode cX1_leaveDay 11 = .ok (.bipush (-4), 2) := by decide +kernel
theorem dX1_leaveDay_13 : decode cX1_leaveDay 13 = .ok (.goto 13, 3) := by decide +kernel
theorem dX1_leaveDay_16 : decode cX1_leaveDay 16 = .ok (.aload_n 2, 1) := by decide +kernel
theorem dX1_leaveDay_17 : decode cX1_leaveDay 17 = .ok (.aload_n 0, 1) := by decide +kernel
theorem dX1_leaveDay_18 : decode cX1_leaveDay 18 = .ok (.getfield 23, 3) := by decide +kernel
theorem dX1_leaveDay_21 : decode cX1_leaveDay 21 = .ok (.iload_n 1, 1) := by decide +kernel
theorem dX1_leaveDay_22 : decode cX1_leaveDay 22 = .ok (.iaload, 1) := by decide +kernel
theorem dX1_leaveDay_23 : decode cX1_leaveDay 23 = .ok (.invokevirtual 71, 3) := by decide +kernel
theorem dX1_leaveDay_26 : decode cX1_leaveDay 26 = .ok (.ireturn, 1) := by decide +kernel
set_option maxRecDepth 20000 in
theorem ggX1_leaversBy_X1_leavesBy : GoodIn wsX1_leaversBy wsX1_leavesBy := goodIn_r _ [6, 7, 8, 9, 10, 5, 11, 12, 13, 14, 15, 16, 17, 27, 28, 29, 30, 18, 19, 20, 21, 22, 23, 24, 25, 26] (by decide +kernel) (by decide +kernel)
set_option maxRecDepth 20000 in
theorem gX1_leaversBy_X1_leavesBy : GoodIn wsX1_leaversBy (wsV RX1 75 RX1 yX1_leavesBy wsX1_leavesBy) := goodIn_app (goodIn_of _ (by decide +kernel)) ggX1_leaversBy_X1_leavesBy
theorem dX1_leaversBy_0 : decode cX1_leaversBy 0 = .ok (.iconst 0, 1) := by decide +kernel
theorem dX1_leaversBy_1 : decode cX1_leaversBy 1 = .ok (.istore_n 3, 1) := by decide +kernel
theorem dX1_leaversBy_2 : decode cX1_leaversBy 2 = .ok (.iconst 0, 1) := by decide +kernel
theorem dX1_leaversBy_3 : decode cX1_leaversBy 3 = .ok (.istore 4, 2) := by decide +kernel
theorem dX1_leaversBy_5 : decode cX1_leaversBy 5 = .ok (.iload 4, 2) := by decide +kernel
theorem dX1_leaversBy_7 : decode cX1_leaversBy 7 = .ok (.aload_n 2, 1) := by decide +kernel
theorem dX1_leaversBy_8 : decode cX1_leaversBy 8 = .ok (.getfield 32, 3) := by decide +kernel
theorem dX1_leaversBy_11 : decode cX1_leaversBy 11 = .ok (.if_icmp .ge 23, 3) := by decide +kernel
theorem dX1_leaversBy_14 : decode cX1_leaversBy 14 = .ok (.aload_n 0, 1) := by decide +kernel
theorem dX1_leaversBy_15 : decode cX1_leaversBy 15 = .ok (.iload 4, 2) := by decide +kernel
theorem dX1_leaversBy_17 : decode cX1_leaversBy 17 = .ok (.iload_n 1, 1) := by decide +kernel
theorem dX1_leaversBy_18 : decode cX1_leaversBy 18 = .ok (.aload_n 2, 1) := by decide +kernel
theorem dX1_leaversBy_19 : decode cX1_leaversBy 19 = .ok (.invokevirtual 75, 3) := by decide +kernel
theorem dX1_leaversBy_22 : decode cX1_leaversBy 22 = .ok (.ifCond .eq 6, 3) := by decide +kernel
theorem dX1_leaversBy_25 : decode cX1_leaversBy 25 = .ok (.iinc 3 1, 3) := by decide +kernel
theorem dX1_leaversBy_28 : decode cX1_leaversBy 28 = .ok (.iinc 4 1, 3) := by decide +kernel
theorem dX1_leaversBy_31 : decode cX1_leaversBy 31 = .ok (.goto (-26), 3) := by decide +kernel
theorem dX1_leaversBy_34 : decode cX1_leaversBy 34 = .ok (.iload_n 3, 1) := by decide +kernel
theorem dX1_leaversBy_35 : decode cX1_leaversBy 35 = .ok (.ireturn, 1) := by decide +kernel
set_option maxRecDepth 20000 in
theorem ggX1_lastLeaveBy_X1_leavesBy : GoodIn wsX1_lastLeaveBy wsX1_leavesBy := goodIn_r _ [10, 11, 12, 13, 14, 9, 15, 16, 17, 18, 19, 20, 21, 31, 32, 33, 34, 22, 23, 24, 25, 26, 27, 28, 29, 30] (by decide +kernel) (by decide +kernel)
set_option maxRecDepth 20000 in
theorem gX1_lastLeaveBy_X1_leavesBy : GoodIn wsX1_lastLeaveBy (wsV RX1 75 RX1 yX1_leavesBy wsX1_leavesBy) := goodIn_app (goodIn_of _ (by decide +kernel)) ggX1_lastLeaveBy_X1_leavesBy
set_option maxRecDepth 20000 in
theorem ggX1_lastLeaveBy_X1_leaveDay : GoodIn wsX1_lastLeaveBy wsX1_leaveDay := goodIn_r _ [15, 11, 16, 17, 18, 19, 20, 21, 31, 32, 33, 34, 22, 23, 24, 25, 26, 27, 28, 29, 30] (by decide +kernel) (by decide +kernel)
set_option maxRecDepth 20000 in
theorem gX1_lastLeaveBy_X1_leaveDay : GoodIn wsX1_lastLeaveBy (wsV RX1 79 RX1 yX1_leaveDay wsX1_leaveDay) := goodIn_app (goodIn_of _ (by decide +kernel)) ggX1_lastLeaveBy_X1_leaveDay
theorem dX1_lastLeaveBy_0 : decode cX1_lastLeaveBy 0 = .ok (.bipush (-4), 2) := by decide +kernel
theorem dX1_lastLeaveBy_2 : decode cX1_lastLeaveBy 2 = .ok (.istore_n 3, 1) := by decide +kernel
theorem dX1_lastLeaveBy_3 : decode cX1_lastLeaveBy 3 = .ok (.iconst 0, 1) := by decide +kernel
theorem dX1_lastLeaveBy_4 : decode cX1_lastLeaveBy 4 = .ok (.istore 4, 2) := by decide +kernel
theorem dX1_lastLeaveBy_6 : decode cX1_lastLeaveBy 6 = .ok (.iload 4, 2) := by decide +kernel
theorem dX1_lastLeaveBy_8 : decode cX1_lastLeaveBy 8 = .ok (.aload_n 2, 1) := by decide +kernel
theorem dX1_lastLeaveBy_9 : decode cX1_lastLeaveBy 9 = .ok (.getfield 32, 3) := by decide +kernel
theorem dX1_lastLeaveBy_12 : decode cX1_lastLeaveBy 12 = .ok (.if_icmp .ge 32, 3) := by decide +kernel
theorem dX1_lastLeaveBy_15 : decode cX1_lastLeaveBy 15 = .ok (.aload_n 0, 1) := by decide +kernel
theorem dX1_lastLeaveBy_16 : decode cX1_lastLeaveBy 16 = .ok (.iload 4, 2) := by decide +kernel
theorem dX1_lastLeaveBy_18 : decode cX1_lastLeaveBy 18 = .ok (.iload_n 1, 1) := by decide +kernel
theorem dX1_lastLeaveBy_19 : decode cX1_lastLeaveBy 19 = .ok (.aload_n 2, 1) := by decide +kernel
theorem dX1_lastLeaveBy_20 : decode cX1_lastLeaveBy 20 = .ok (.invokevirtual 75, 3) := by decide +kernel
theorem dX1_lastLeaveBy_23 : decode cX1_lastLeaveBy 23 = .ok (.ifCond .eq 15, 3) := by decide +kernel
theorem dX1_lastLeaveBy_26 : decode cX1_lastLeaveBy 26 = .ok (.iload_n 3, 1) := by decide +kernel
theorem dX1_lastLeaveBy_27 : decode cX1_lastLeaveBy 27 = .ok (.aload_n 0, 1) := by decide +kernel
theorem dX1_lastLeaveBy_28 : decode cX1_lastLeaveBy 28 = .ok (.iload 4, 2) := by decide +kernel
theorem dX1_lastLeaveBy_30 : decode cX1_lastLeaveBy 30 = .ok (.aload_n 2, 1) := by decide +kernel
theorem dX1_lastLeaveBy_31 : decode cX1_lastLeaveBy 31 = .ok (.invokevirtual 79, 3) := by decide +kernel
theorem dX1_lastLeaveBy_34 : decode cX1_lastLeaveBy 34 = .ok (.invokestatic 83, 3) := by decide +kernel
theorem dX1_lastLeaveBy_37 : decode cX1_lastLeaveBy 37 = .ok (.istore_n 3, 1) := by decide +kernel
theorem dX1_lastLeaveBy_38 : decode cX1_lastLeaveBy 38 = .ok (.iinc 4 1, 3) := by decide +kernel
theorem dX1_lastLeaveBy_41 : decode cX1_lastLeaveBy 41 = .ok (.goto (-35), 3) := by decide +kernel
theorem dX1_lastLeaveBy_44 : decode cX1_lastLeaveBy 44 = .ok (.iload_n 3, 1) := by decide +kernel
theorem dX1_lastLeaveBy_45 : decode cX1_lastLeaveBy 45 = .ok (.ireturn, 1) := by decide +kernel
set_option maxRecDepth 20000 in
theorem ggX1_leavesBy_X1_leaveDay : GoodIn wsX1_leavesBy wsX1_leaveDay := goodIn_r _ [6, 1, 7, 8, 9, 10, 11, 12, 13, 14, 15, 16, 17, 18, 19, 20, 21, 22, 23, 24, 25] (by decide +kernel) (by decide +kernel)
set_option maxRecDepth 20000 in
theorem gX1_leavesBy_X1_leaveDay : GoodIn wsX1_leavesBy (wsV RX1 79 RX1 yX1_leaveDay wsX1_leaveDay) := goodIn_app (goodIn_of _ (by decide +kernel)) ggX1_leavesBy_X1_leaveDay
theorem dX1_leavesBy_0 : decode cX1_leavesBy 0 = .ok (.aload_n 0, 1) := by decide +kernel
theorem dX1_leavesBy_1 : decode cX1_leavesBy 1 = .ok (.getfield 23, 3) := by decide +kernel
theorem dX1_leavesBy_4 : decode cX1_leavesBy 4 = .ok (.iload_n 1, 1) := by decide +kernel
theorem dX1_leavesBy_5 : decode cX1_leavesBy 5 = .ok (.iaload, 1) := by decide +kernel
theorem dX1_leavesBy_6 : decode cX1_leavesBy 6 = .ok (.bipush (-4), 2) := by decide +kernel
theorem dX1_leavesBy_8 : decode cX1_leavesBy 8 = .ok (.if_icmp .eq 17, 3) := by decide +kernel
theorem dX1_leavesBy_11 : decode cX1_leavesBy 11 = .ok (.aload_n 0, 1) := by decide +kernel
theorem dX1_leavesBy_12 : decode cX1_leavesBy 12 = .ok (.iload_n 1, 1) := by decide +kernel
theorem dX1_leavesBy_13 : decode cX1_leavesBy 13 = .ok (.aload_n 3, 1) := by decide +kernel
theorem dX1_leavesBy_14 : decode cX1_leavesBy 14 = .ok (.invokevirtual 79, 3) := by decide +kernel
theorem dX1_leavesBy_17 : decode cX1_leavesBy 17 = .ok (.iload_n 2, 1) := by decide +kernel
theorem dX1_leavesBy_18 : decode cX1_leavesBy 18 = .ok (.if_icmp .gt 7, 3) := by decide +kernel
theorem dX1_leavesBy_21 : decode cX1_leavesBy 21 = .ok (.iconst 1, 1) := by decide +kernel
theorem dX1_leavesBy_22 : decode cX1_leavesBy 22 = .ok (.goto 4, 3) := by decide +kernel
theorem dX1_leavesBy_25 : decode cX1_leavesBy 25 = .ok (.iconst 0, 1) := by decide +kernel
theorem dX1_leavesBy_26 : decode cX1_leavesBy 26 = .ok (.ireturn, 1) := by decide +kernel
theorem dX2_init_0 : decode cX2_init 0 = .ok (.aload_n 0, 1) := by decide +kernel
theorem dX2_init_1 : decode cX2_init 1 = .ok (.invokespecial 3, 3) := by decide +kernel
theorem dX2_init_4 : decode cX2_init 4 = .ok (.aload_n 0, 1) := by decide +kernel
theorem dX2_init_5 : decode cX2_init 5 = .ok (.iconst 5, 1) := by decide +kernel
theorem dX2_init_6 : decode cX2_init 6 = .ok (.newarray .int, 2) := by decide +kernel
theorem dX2_init_8 : decode cX2_init 8 = .ok (.putfield 9, 3) := by decide +kernel
theorem dX2_init_11 : decode cX2_init 11 = .ok (.aload_n 0, 1) := by decide +kernel
theorem dX2_init_12 : decode cX2_init 12 = .ok (.iconst 0, 1) := by decide +kernel
theorem dX2_init_13 : decode cX2_init 13 = .ok (.putfield 15, 3) := by decide +kernel
theorem dX2_init_16 : decode cX2_init 16 = .ok (.aload_n 0, 1) := by decide +kernel
theorem dX2_init_17 : decode cX2_init 17 = .ok (.bipush 9, 2) := by decide +kernel
theorem dX2_init_19 : decode cX2_init 19 = .ok (.newarray .int, 2) := by decide +kernel
theorem dX2_init_21 : decode cX2_init 21 = .ok (.putfield 19, 3) := by decide +kernel
theorem dX2_init_24 : decode cX2_init 24 = .ok (.aload_n 0, 1) := by decide +kernel
theorem dX2_init_25 : decode cX2_init 25 = .ok (.bipush 9, 2) := by decide +kernel
theorem dX2_init_27 : decode cX2_init 27 = .ok (.newarray .int, 2) := by decide +kernel
theorem dX2_init_29 : decode cX2_init 29 = .ok (.putfield 22, 3) := by decide +kernel
theorem dX2_init_32 : decode cX2_init 32 = .ok (.aload_n 0, 1) := by decide +kernel
theorem dX2_init_33 : decode cX2_init 33 = .ok (.bipush 9, 2) := by decide +kernel
theorem dX2_init_35 : decode cX2_init 35 = .ok (.newarray .int, 2) := by decide +kernel
theorem dX2_init_37 : decode cX2_init 37 = .ok (.putfield 25, 3) := by decide +kernel
theorem dX2_init_40 : decode cX2_init 40 = .ok (.return_, 1) := by decide +kernel
theorem dX2_addLook_0 : decode cX2_addLook 0 = .ok (.aload_n 0, 1) := by decide +kernel
theorem dX2_addLook_1 : decode cX2_addLook 1 = .ok (.getfield 15, 3) := by decide +kernel
theorem dX2_addLook_4 : decode cX2_addLook 4 = .ok (.bipush 9, 2) := by decide +kernel
theorem dX2_addLook_6 : decode cX2_addLook 6 = .ok (.if_icmp .lt 5, 3) := by decide +kernel
theorem dX2_addLook_9 : decode cX2_addLook 9 = .ok (.iconst 0, 1) := by decide +kernel
theorem dX2_addLook_10 : decode cX2_addLook 10 = .ok (.ireturn, 1) := by decide +kernel
theorem dX2_addLook_11 : decode cX2_addLook 11 = .ok (.aload_n 0, 1) := by decide +kernel
theorem dX2_addLook_12 : decode cX2_addLook 12 = .ok (.getfield 19, 3) := by decide +kernel
theorem dX2_addLook_15 : decode cX2_addLook 15 = .ok (.aload_n 0, 1) := by decide +kernel
theorem dX2_addLook_16 : decode cX2_addLook 16 = .ok (.getfield 15, 3) := by decide +kernel
theorem dX2_addLook_19 : decode cX2_addLook 19 = .ok (.iload_n 1, 1) := by decide +kernel
theorem dX2_addLook_20 : decode cX2_addLook 20 = .ok (.iastore, 1) := by decide +kernel
theorem dX2_addLook_21 : decode cX2_addLook 21 = .ok (.aload_n 0, 1) := by decide +kernel
theorem dX2_addLook_22 : decode cX2_addLook 22 = .ok (.getfield 22, 3) := by decide +kernel
theorem dX2_addLook_25 : decode cX2_addLook 25 = .ok (.aload_n 0, 1) := by decide +kernel
theorem dX2_addLook_26 : decode cX2_addLook 26 = .ok (.getfield 15, 3) := by decide +kernel
theorem dX2_addLook_29 : decode cX2_addLook 29 = .ok (.iload_n 2, 1) := by decide +kernel
theorem dX2_addLook_30 : decode cX2_addLook 30 = .ok (.iastore, 1) := by decide +kernel
theorem dX2_addLook_31 : decode cX2_addLook 31 = .ok (.aload_n 0, 1) := by decide +kernel
theorem dX2_addLook_32 : decode cX2_addLook 32 = .ok (.getfield 25, 3) := by decide +kernel
theorem dX2_addLook_35 : decode cX2_addLook 35 = .ok (.aload_n 0, 1) := by decide +kernel
theorem dX2_addLook_36 : decode cX2_addLook 36 = .ok (.getfield 15, 3) := by decide +kernel
theorem dX2_addLook_39 : decode cX2_addLook 39 = .ok (.iload_n 3, 1) := by decide +kernel
theorem dX2_addLook_40 : decode cX2_addLook 40 = .ok (.iastore, 1) := by decide +kernel
theorem dX2_addLook_41 : decode cX2_addLook 41 = .ok (.aload_n 0, 1) := by decide +kernel
theorem dX2_addLook_42 : decode cX2_addLook 42 = .ok (.dup, 1) := by decide +kernel
theorem dX2_addLook_43 : decode cX2_addLook 43 = .ok (.getfield 15, 3) := by decide +kernel
theorem dX2_addLook_46 : decode cX2_addLook 46 = .ok (.iconst 1, 1) := by decide +kernel
theorem dX2_addLook_47 : decode cX2_addLook 47 = .ok (.iadd, 1) := by decide +kernel
theorem dX2_addLook_48 : decode cX2_addLook 48 = .ok (.putfield 15, 3) := by decide +kernel
theorem dX2_addLook_51 : decode cX2_addLook 51 = .ok (.iconst 1, 1) := by decide +kernel
theorem dX2_addLook_52 : decode cX2_addLook 52 = .ok (.ireturn, 1) := by decide +kernel
theorem dX2_copyOf_0 : decode cX2_copyOf 0 = .ok (.aload_n 1, 1) := by decide +kernel
theorem dX2_copyOf_1 : decode cX2_copyOf 1 = .ok (.getfield 9, 3) := by decide +kernel
theorem dX2_copyOf_4 : decode cX2_copyOf 4 = .ok (.iconst 0, 1) := by decide +kernel
theorem dX2_copyOf_5 : decode cX2_copyOf 5 = .ok (.aload_n 0, 1) := by decide +kernel
theorem dX2_copyOf_6 : decode cX2_copyOf 6 = .ok (.getfield 9, 3) := by decide +kernel
theorem dX2_copyOf_9 : decode cX2_copyOf 9 = .ok (.iconst 0, 1) := by decide +kernel
theorem dX2_copyOf_10 : decode cX2_copyOf 10 = .ok (.iconst 5, 1) := by decide +kernel
theorem dX2_copyOf_11 : decode cX2_copyOf 11 = .ok (.invokestatic 28, 3) := by decide +kernel
theorem dX2_copyOf_14 : decode cX2_copyOf 14 = .ok (.aload_n 1, 1) := by decide +kernel
theorem dX2_copyOf_15 : decode cX2_copyOf 15 = .ok (.getfield 19, 3) := by decide +kernel
theorem dX2_copyOf_18 : decode cX2_copyOf 18 = .ok (.iconst 0, 1) := by decide +kernel
theorem dX2_copyOf_19 : decode cX2_copyOf 19 = .ok (.aload_n 0, 1) := by decide +kernel
theorem dX2_copyOf_20 : decode cX2_copyOf 20 = .ok (.getfield 19, 3) := by decide +kernel
theorem dX2_copyOf_23 : decode cX2_copyOf 23 = .ok (.iconst 0, 1) := by decide +kernel
theorem dX2_copyOf_24 : decode cX2_copyOf 24 = .ok (.bipush 9, 2) := by decide +kernel
theorem dX2_copyOf_26 : decode cX2_copyOf 26 = .ok (.invokestatic 28, 3) := by decide +kernel
theorem dX2_copyOf_29 : decode cX2_copyOf 29 = .ok (.aload_n 1, 1) := by decide +kernel
theorem dX2_copyOf_30 : decode cX2_copyOf 30 = .ok (.getfield 22, 3) := by decide +kernel
theorem dX2_copyOf_33 : decode cX2_copyOf 33 = .ok (.iconst 0, 1) := by decide +kernel
theorem dX2_copyOf_34 : decode cX2_copyOf 34 = .ok (.aload_n 0, 1) := by decide +kernel
theorem dX2_copyOf_35 : decode cX2_copyOf 35 = .ok (.getfield 22, 3) := by decide +kernel
theorem dX2_copyOf_38 : decode cX2_copyOf 38 = .ok (.iconst 0, 1) := by decide +kernel
theorem dX2_copyOf_39 : decode cX2_copyOf 39 = .ok (.bipush 9, 2) := by decide +kernel
theorem dX2_copyOf_41 : decode cX2_copyOf 41 = .ok (.invokestatic 28, 3) := by decide +kernel
theorem dX2_copyOf_44 : decode cX2_copyOf 44 = .ok (.aload_n 1, 1) := by decide +kernel
theorem dX2_copyOf_45 : decode cX2_copyOf 45 = .ok (.getfield 25, 3) := by decide +kernel
theorem dX2_copyOf_48 : decode cX2_copyOf 48 = .ok (.iconst 0, 1) := by decide +kernel
theorem dX2_copyOf_49 : decode cX2_copyOf 49 = .ok (.aload_n 0, 1) := by decide +kernel
theorem dX2_copyOf_50 : decode cX2_copyOf 50 = .ok (.getfield 25, 3) := by decide +kernel
theorem dX2_copyOf_53 : decode cX2_copyOf 53 = .ok (.iconst 0, 1) := by decide +kernel
theorem dX2_copyOf_54 : decode cX2_copyOf 54 = .ok (.bipush 9, 2) := by decide +kernel
theorem dX2_copyOf_56 : decode cX2_copyOf 56 = .ok (.invokestatic 28, 3) := by decide +kernel
theorem dX2_copyOf_59 : decode cX2_copyOf 59 = .ok (.aload_n 0, 1) := by decide +kernel
theorem dX2_copyOf_60 : decode cX2_copyOf 60 = .ok (.aload_n 1, 1) := by decide +kernel
theorem dX2_copyOf_61 : decode cX2_copyOf 61 = .ok (.getfield 15, 3) := by decide +kernel
theorem dX2_copyOf_64 : decode cX2_copyOf 64 = .ok (.putfield 15, 3) := by decide +kernel
theorem dX2_copyOf_67 : decode cX2_copyOf 67 = .ok (.return_, 1) := by decide +kernel
theorem dX3_init_0 : decode cX3_init 0 = .ok (.aload_n 0, 1) := by decide +kernel
theorem dX3_init_1 : decode cX3_init 1 = .ok (.invokespecial 3, 3) := by decide +kernel
theorem dX3_init_4 : decode cX3_init 4 = .ok (.aload_n 0, 1) := by decide +kernel
theorem dX3_init_5 : decode cX3_init 5 = .ok (.sipush 300, 3) := by decide +kernel
theorem dX3_init_8 : decode cX3_init 8 = .ok (.newarray .byte, 2) := by decide +kernel
theorem dX3_init_10 : decode cX3_init 10 = .ok (.putfield 9, 3) := by decide +kernel
theorem dX3_init_13 : decode cX3_init 13 = .ok (.aload_n 0, 1) := by decide +kernel
theorem dX3_init_14 : decode cX3_init 14 = .ok (.iconst 0, 1) := by decide +kernel
theorem dX3_init_15 : decode cX3_init 15 = .ok (.putfield 15, 3) := by decide +kernel
theorem dX3_init_18 : decode cX3_init 18 = .ok (.aload_n 0, 1) := by decide +kernel
theorem dX3_init_19 : decode cX3_init 19 = .ok (.iconst 3, 1) := by decide +kernel
theorem dX3_init_20 : decode cX3_init 20 = .ok (.newarray .int, 2) := by decide +kernel
theorem dX3_init_22 : decode cX3_init 22 = .ok (.putfield 19, 3) := by decide +kernel
theorem dX3_init_25 : decode cX3_init 25 = .ok (.return_, 1) := by decide +kernel
theorem dX3_append_0 : decode cX3_append 0 = .ok (.iload_n 1, 1) := by decide +kernel
theorem dX3_append_1 : decode cX3_append 1 = .ok (.iconst 1, 1) := by decide +kernel
theorem dX3_append_2 : decode cX3_append 2 = .ok (.isub, 1) := by decide +kernel
theorem dX3_append_3 : decode cX3_append 3 = .ok (.istore 4, 2) := by decide +kernel
theorem dX3_append_5 : decode cX3_append 5 = .ok (.iload 4, 2) := by decide +kernel
theorem dX3_append_7 : decode cX3_append 7 = .ok (.ifCond .lt 47, 3) := by decide +kernel
theorem dX3_append_10 : decode cX3_append 10 = .ok (.aload_n 0, 1) := by decide +kernel
theorem dX3_append_11 : decode cX3_append 11 = .ok (.getfield 15, 3) := by decide +kernel
theorem dX3_append_14 : decode cX3_append 14 = .ok (.sipush 300, 3) := by decide +kernel
theorem dX3_append_17 : decode cX3_append 17 = .ok (.if_icmp .ge 37, 3) := by decide +kernel
theorem dX3_append_20 : decode cX3_append 20 = .ok (.aload_n 0, 1) := by decide +kernel
theorem dX3_append_21 : decode cX3_append 21 = .ok (.getfield 9, 3) := by decide +kernel
theorem dX3_append_24 : decode cX3_append 24 = .ok (.aload_n 0, 1) := by decide +kernel
theorem dX3_append_25 : decode cX3_append 25 = .ok (.getfield 15, 3) := by decide +kernel
theorem dX3_append_28 : decode cX3_append 28 = .ok (.lload_n 2, 1) := by decide +kernel
theorem dX3_append_29 : decode cX3_append 29 = .ok (.bipush 8, 2) := by decide +kernel
theorem dX3_append_31 : decode cX3_append 31 = .ok (.iload 4, 2) := by decide +kernel
theorem dX3_append_33 : decode cX3_append 33 = .ok (.imul, 1) := by decide +kernel
theorem dX3_append_34 : decode cX3_append 34 = .ok (.lushr, 1) := by decide +kernel
theorem dX3_append_35 : decode cX3_append 35 = .ok (.l2i, 1) := by decide +kernel
theorem dX3_append_36 : decode cX3_append 36 = .ok (.i2b, 1) := by decide +kernel
theorem dX3_append_37 : decode cX3_append 37 = .ok (.bastore, 1) := by decide +kernel
theorem dX3_append_38 : decode cX3_append 38 = .ok (.aload_n 0, 1) := by decide +kernel
theorem dX3_append_39 : decode cX3_append 39 = .ok (.dup, 1) := by decide +kernel
theorem dX3_append_40 : decode cX3_append 40 = .ok (.getfield 15, 3) := by decide +kernel
theorem dX3_append_43 : decode cX3_append 43 = .ok (.iconst 1, 1) := by decide +kernel
theorem dX3_append_44 : decode cX3_append 44 = .ok (.iadd, 1) := by decide +kernel
theorem dX3_append_45 : decode cX3_append 45 = .ok (.putfield 15, 3) := by decide +kernel
theorem dX3_append_48 : decode cX3_append 48 = .ok (.iinc 4 (-1), 3) := by decide +kernel
theorem dX3_append_51 : decode cX3_append 51 = .ok (.goto (-46), 3) := by decide +kernel
theorem dX3_append_54 : decode cX3_append 54 = .ok (.return_, 1) := by decide +kernel
set_option maxRecDepth 20000 in
theorem ggX3_readInto_X7_empty : GoodIn wsX3_readInto wsX7_empty := goodIn_r _ [6, 7, 8, 9, 10, 11, 12, 75, 76, 77, 78, 79, 80, 81, 82, 83, 84, 85, 86, 87, 88] (by decide +kernel) (by decide +kernel)
set_option maxRecDepth 20000 in
theorem gX3_readInto_X7_empty : GoodIn wsX3_readInto (wsV RX3 23 RX7 yX7_empty wsX7_empty) := goodIn_app (goodIn_of _ (by decide +kernel)) ggX3_readInto_X7_empty
set_option maxRecDepth 20000 in
theorem ggX3_readInto_X3_readItem : GoodIn wsX3_readInto wsX3_readItem := goodIn_r _ [17, 18, 19, 20, 21, 16, 22, 23, 24, 25, 26, 27, 28, 29, 30, 1, 31, 32, 33, 5, 34, 9, 35, 36, 37, 38, 7, 39, 40, 41, 42, 43, 44, 8, 45, 46, 47, 48, 49, 50, 51, 52, 53, 54, 55, 56, 57, 58, 59, 60, 61, 62, 63, 64, 65, 66, 67, 11, 68, 69, 70, 71, 12, 72, 73, 74, 75, 76, 77, 78, 79, 80, 81, 82, 83, 84, 85, 86, 87, 88] (by decide +kernel) (by decide +kernel)
set_option maxRecDepth 20000 in
theorem gX3_readInto_X3_readItem : GoodIn wsX3_readInto (wsV RX3 28 RX3 yX3_readItem wsX3_readItem) := goodIn_app (goodIn_of _ (by decide +kernel)) ggX3_readInto_X3_readItem
theorem dX3_readInto_0 : decode cX3_readInto 0 = .ok (.aload_n 1, 1) := by decide +kernel
theorem dX3_readInto_1 : decode cX3_readInto 1 = .ok (.invokevirtual 23, 3) := by decide +kernel
theorem dX3_readInto_4 : decode cX3_readInto 4 = .ok (.iconst 0, 1) := by decide +kernel
theorem dX3_readInto_5 : decode cX3_readInto 5 = .ok (.istore_n 2, 1) := by decide +kernel
theorem dX3_readInto_6 : decode cX3_readInto 6 = .ok (.iload_n 2, 1) := by decide +kernel
theorem dX3_readInto_7 : decode cX3_readInto 7 = .ok (.aload_n 0, 1) := by decide +kernel
theorem dX3_readInto_8 : decode cX3_readInto 8 = .ok (.getfield 15, 3) := by decide +kernel
theorem dX3_readInto_11 : decode cX3_readInto 11 = .ok (.if_icmp .ge 22, 3) := by decide +kernel
theorem dX3_readInto_14 : decode cX3_readInto 14 = .ok (.aload_n 0, 1) := by decide +kernel
theorem dX3_readInto_15 : decode cX3_readInto 15 = .ok (.iload_n 2, 1) := by decide +kernel
theorem dX3_readInto_16 : decode cX3_readInto 16 = .ok (.aload_n 1, 1) := by decide +kernel
theorem dX3_readInto_17 : decode cX3_readInto 17 = .ok (.invokevirtual 28, 3) := by decide +kernel
theorem dX3_readInto_20 : decode cX3_readInto 20 = .ok (.istore_n 3, 1) := by decide +kernel
theorem dX3_readInto_21 : decode cX3_readInto 21 = .ok (.iload_n 3, 1) := by decide +kernel
theorem dX3_readInto_22 : decode cX3_readInto 22 = .ok (.iload_n 2, 1) := by decide +kernel
theorem dX3_readInto_23 : decode cX3_readInto 23 = .ok (.if_icmp .gt 5, 3) := by decide +kernel
theorem dX3_readInto_26 : decode cX3_readInto 26 = .ok (.iload_n 2, 1) := by decide +kernel
theorem dX3_readInto_27 : decode cX3_readInto 27 = .ok (.ireturn, 1) := by decide +kernel
theorem dX3_readInto_28 : decode cX3_readInto 28 = .ok (.iload_n 3, 1) := by decide +kernel
theorem dX3_readInto_29 : decode cX3_readInto 29 = .ok (.istore_n 2, 1) := by decide +kernel
theorem dX3_readInto_30 : decode cX3_readInto 30 = .ok (.goto (-24), 3) := by decide +kernel
theorem dX3_readInto_33 : decode cX3_readInto 33 = .ok (.bipush (-4), 2) := by decide +kernel
theorem dX3_readInto_35 : decode cX3_readInto 35 = .ok (.ireturn, 1) := by decide +kernel
set_option maxRecDepth 20000 in
theorem ggX3_readItem_X3_numbersBehind : GoodIn wsX3_readItem wsX3_numbersBehind := goodIn_r _ [6] (by decide +kernel) (by decide +kernel)
set_option maxRecDepth 20000 in
theorem gX3_readItem_X3_numbersBehind : GoodIn wsX3_readItem (va_wsS RX3 32 yX3_numbersBehind wsX3_numbersBehind) := goodIn_app (goodIn_of _ (by decide +kernel)) ggX3_readItem_X3_numbersBehind
set_option maxRecDepth 20000 in
theorem ggX3_readItem_X3_readNumber : GoodIn wsX3_readItem wsX3_readNumber := goodIn_r _ [10, 1, 2, 11, 12, 13, 5, 14, 15, 63, 64, 65] (by decide +kernel) (by decide +kernel)
set_option maxRecDepth 20000 in
theorem gX3_readItem_X3_readNumber : GoodIn wsX3_readItem (wsV RX3 36 RX3 yX3_readNumber wsX3_readNumber) := goodIn_app (goodIn_of _ (by decide +kernel)) ggX3_readItem_X3_readNumber
set_option maxRecDepth 20000 in
theorem ggX3_readItem_X7_accept : GoodIn wsX3_readItem wsX7_accept := goodIn_r _ [20, 21, 22, 23, 24, 19, 25, 26, 27, 28, 29, 30, 31, 32, 33, 34, 35, 36, 37, 38, 39, 40, 41, 42, 43, 44, 45, 46, 47, 48, 49, 50, 51, 52, 53, 54, 55, 56, 57, 58, 59, 60, 61, 62, 66, 67, 68, 69, 70, 71, 72, 73, 74, 75, 76, 77, 78, 79] (by decide +kernel) (by decide +kernel)
set_option maxRecDepth 20000 in
theorem gX3_readItem_X7_accept : GoodIn wsX3_readItem (wsV RX3 40 RX7 yX7_accept wsX7_accept) := goodIn_app (goodIn_of _ (by decide +kernel)) ggX3_readItem_X7_accept
theorem dX3_readItem_0 : decode cX3_readItem 0 = .ok (.aload_n 0, 1) := by decide +kernel
theorem dX3_readItem_1 : decode cX3_readItem 1 = .ok (.getfield 9, 3) := by decide +kernel
theorem dX3_readItem_4 : decode cX3_readItem 4 = .ok (.iload_n 1, 1) := by decide +kernel
theorem dX3_readItem_5 : decode cX3_readItem 5 = .ok (.baload, 1) := by decide +kernel
theorem dX3_readItem_6 : decode cX3_readItem 6 = .ok (.sipush 255, 3) := by decide +kernel
theorem dX3_readItem_9 : decode cX3_readItem 9 = .ok (.iand, 1) := by decide +kernel
theorem dX3_readItem_10 : decode cX3_readItem 10 = .ok (.i2c, 1) := by decide +kernel
theorem dX3_readItem_11 : decode cX3_readItem 11 = .ok (.istore_n 3, 1) := by decide +kernel
theorem dX3_readItem_12 : decode cX3_readItem 12 = .ok (.iload_n 3, 1) := by decide +kernel
theorem dX3_readItem_13 : decode cX3_readItem 13 = .ok (.invokestatic 32, 3) := by decide +kernel
theorem dX3_readItem_16 : decode cX3_readItem 16 = .ok (.istore 4, 2) := by decide +kernel
theorem dX3_readItem_18 : decode cX3_readItem 18 = .ok (.iload 4, 2) := by decide +kernel
theorem dX3_readItem_20 : decode cX3_readItem 20 = .ok (.ifCond .le 9, 3) := by decide +kernel
theorem dX3_readItem_23 : decode cX3_readItem 23 = .ok (.iload_n 1, 1) := by decide +kernel
theorem dX3_readItem_24 : decode cX3_readItem 24 = .ok (.iconst 1, 1) := by decide +kernel
theorem dX3_readItem_25 : decode cX3_readItem 25 = .ok (.iadd, 1) := by decide +kernel
theorem dX3_readItem_26 : decode cX3_readItem 26 = .ok (.goto 5, 3) := by decide +kernel
theorem dX3_readItem_29 : decode cX3_readItem 29 = .ok (.bipush (-4), 2) := by decide +kernel
theorem dX3_readItem_31 : decode cX3_readItem 31 = .ok (.istore 5, 2) := by decide +kernel
theorem dX3_readItem_33 : decode cX3_readItem 33 = .ok (.iconst 0, 1) := by decide +kernel
theorem dX3_readItem_34 : decode cX3_readItem 34 = .ok (.istore 6, 2) := by decide +kernel
theorem dX3_readItem_36 : decode cX3_readItem 36 = .ok (.iload 6, 2) := by decide +kernel
theorem dX3_readItem_38 : decode cX3_readItem 38 = .ok (.iload 4, 2) := by decide +kernel
theorem dX3_readItem_40 : decode cX3_readItem 40 = .ok (.if_icmp .ge 40, 3) := by decide +kernel
theorem dX3_readItem_43 : decode cX3_readItem 43 = .ok (.iload 5, 2) := by decide +kernel
theorem dX3_readItem_45 : decode cX3_readItem 45 = .ok (.ifCond .lt 35, 3) := by decide +kernel
theorem dX3_readItem_48 : decode cX3_readItem 48 = .ok (.aload_n 0, 1) := by decide +kernel
theorem dX3_readItem_49 : decode cX3_readItem 49 = .ok (.iload 5, 2) := by decide +kernel
theorem dX3_readItem_51 : decode cX3_readItem 51 = .ok (.iload 6, 2) := by decide +kernel
theorem dX3_readItem_53 : decode cX3_readItem 53 = .ok (.iload 6, 2) := by decide +kernel
theorem dX3_readItem_55 : decode cX3_readItem 55 = .ok (.iconst 1, 1) := by decide +kernel
theorem dX3_readItem_56 : decode cX3_readItem 56 = .ok (.iadd, 1) := by decide +kernel
theorem dX3_readItem_57 : decode cX3_readItem 57 = .ok (.iload 4, 2) := by decide +kernel
theorem dX3_readItem_59 : decode cX3_readItem 59 = .ok (.if_icmp .ge 8, 3) := by decide +kernel
theorem dX3_readItem_62 : decode cX3_readItem 62 = .ok (.bipush 44, 2) := by decide +kernel
theorem dX3_readItem_64 : decode cX3_readItem 64 = .ok (.goto 5, 3) := by decide +kernel
theorem dX3_readItem_67 : decode cX3_readItem 67 = .ok (.bipush 59, 2) := by decide +kernel
theorem dX3_readItem_69 : decode cX3_readItem 69 = .ok (.invokevirtual 36, 3) := by decide +kernel
theorem dX3_readItem_72 : decode cX3_readItem 72 = .ok (.istore 5, 2) := by decide +kernel
theorem dX3_readItem_74 : decode cX3_readItem 74 = .ok (.iinc 6 1, 3) := by decide +kernel
theorem dX3_readItem_77 : decode cX3_readItem 77 = .ok (.goto (-41), 3) := by decide +kernel
theorem dX3_readItem_80 : decode cX3_readItem 80 = .ok (.iload 5, 2) := by decide +kernel
theorem dX3_readItem_82 : decode cX3_readItem 82 = .ok (.ifCond .lt 34, 3) := by decide +kernel
theorem dX3_readItem_85 : decode cX3_readItem 85 = .ok (.aload_n 2, 1) := by decide +kernel
theorem dX3_readItem_86 : decode cX3_readItem 86 = .ok (.iload_n 3, 1) := by decide +kernel
theorem dX3_readItem_87 : decode cX3_readItem 87 = .ok (.aload_n 0, 1) := by decide +kernel
theorem dX3_readItem_88 : decode cX3_readItem 88 = .ok (.getfield 19, 3) := by decide +kernel
theorem dX3_readItem_91 : decode cX3_readItem 91 = .ok (.iconst 0, 1) := by decide +kernel
theorem dX3_readItem_92 : decode cX3_readItem 92 = .ok (.iaload, 1) := by decide +kernel
theorem dX3_readItem_93 : decode cX3_readItem 93 = .ok (.aload_n 0, 1) := by decide +kernel
theorem dX3_readItem_94 : decode cX3_readItem 94 = .ok (.getfield 19, 3) := by decide +kernel
theorem dX3_readItem_97 : decode cX3_readItem 97 = .ok (.iconst 1, 1) := by decide +kernel
theorem dX3_readItem_98 : decode cX3_readItem 98 = .ok (.iaload, 1) := by decide +kernel
theorem dX3_readItem_99 : decode cX3_readItem 99 = .ok (.aload_n 0, 1) := by decide +kernel
theorem dX3_readItem_100 : decode cX3_readItem 100 = .ok (.getfield 19, 3) := by decide +kernel
theorem dX3_readItem_103 : decode cX3_readItem 103 = .ok (.iconst 2, 1) := by decide +kernel
theorem dX3_readItem_104 : decode cX3_readItem 104 = .ok (.iaload, 1) := by decide +kernel
theorem dX3_readItem_105 : decode cX3_readItem 105 = .ok (.invokevirtual 40, 3) := by decide +kernel
theorem dX3_readItem_108 : decode cX3_readItem 108 = .ok (.ifCond .eq 8, 3) := by decide +kernel
theorem dX3_readItem_111 : decode cX3_readItem 111 = .ok (.iload 5, 2) := by decide +kernel
theorem dX3_readItem_113 : decode cX3_readItem 113 = .ok (.goto 5, 3) := by decide +kernel
theorem dX3_readItem_116 : decode cX3_readItem 116 = .ok (.bipush (-4), 2) := by decide +kernel
theorem dX3_readItem_118 : decode cX3_readItem 118 = .ok (.ireturn, 1) := by decide +kernel
set_option maxRecDepth 20000 in
theorem ggX3_readNumber_X3_holds : GoodIn wsX3_readNumber wsX3_holds := goodIn_r _ [7, 8, 1, 9, 10, 11] (by decide +kernel) (by decide +kernel)
set_option maxRecDepth 20000 in
theorem gX3_readNumber_X3_holds : GoodIn wsX3_readNumber (wsV RX3 44 RX3 yX3_holds wsX3_holds) := goodIn_app (goodIn_of _ (by decide +kernel)) ggX3_readNumber_X3_holds
theorem dX3_readNumber_0 : decode cX3_readNumber 0 = .ok (.iconst 0, 1) := by decide +kernel
theorem dX3_readNumber_1 : decode cX3_readNumber 1 = .ok (.istore 4, 2) := by decide +kernel
theorem dX3_readNumber_3 : decode cX3_readNumber 3 = .ok (.iload_n 1, 1) := by decide +kernel
theorem dX3_readNumber_4 : decode cX3_readNumber 4 = .ok (.istore 5, 2) := by decide +kernel
theorem dX3_readNumber_6 : decode cX3_readNumber 6 = .ok (.iload 5, 2) := by decide +kernel
theorem dX3_readNumber_8 : decode cX3_readNumber 8 = .ok (.iload_n 1, 1) := by decide +kernel
theorem dX3_readNumber_9 : decode cX3_readNumber 9 = .ok (.iconst 2, 1) := by decide +kernel
theorem dX3_readNumber_10 : decode cX3_readNumber 10 = .ok (.iadd, 1) := by decide +kernel
theorem dX3_readNumber_11 : decode cX3_readNumber 11 = .ok (.if_icmp .ge 40, 3) := by decide +kernel
theorem dX3_readNumber_14 : decode cX3_readNumber 14 = .ok (.aload_n 0, 1) := by decide +kernel
theorem dX3_readNumber_15 : decode cX3_readNumber 15 = .ok (.iload 5, 2) := by decide +kernel
theorem dX3_readNumber_17 : decode cX3_readNumber 17 = .ok (.bipush 48, 2) := by decide +kernel
theorem dX3_readNumber_19 : decode cX3_readNumber 19 = .ok (.bipush 57, 2) := by decide +kernel
theorem dX3_readNumber_21 : decode cX3_readNumber 21 = .ok (.invokevirtual 44, 3) := by decide +kernel
theorem dX3_readNumber_24 : decode cX3_readNumber 24 = .ok (.ifCond .eq 27, 3) := by decide +kernel
theorem dX3_readNumber_27 : decode cX3_readNumber 27 = .ok (.iload 4, 2) := by decide +kernel
theorem dX3_readNumber_29 : decode cX3_readNumber 29 = .ok (.bipush 10, 2) := by decide +kernel
theorem dX3_readNumber_31 : decode cX3_readNumber 31 = .ok (.imul, 1) := by decide +kernel
theorem dX3_readNumber_32 : decode cX3_readNumber 32 = .ok (.aload_n 0, 1) := by decide +kernel
theorem dX3_readNumber_33 : decode cX3_readNumber 33 = .ok (.getfield 9, 3) := by decide +kernel
theorem dX3_readNumber_36 : decode cX3_readNumber 36 = .ok (.iload 5, 2) := by decide +kernel
theorem dX3_readNumber_38 : decode cX3_readNumber 38 = .ok (.baload, 1) := by decide +kernel
theorem dX3_readNumber_39 : decode cX3_readNumber 39 = .ok (.iadd, 1) := by decide +kernel
theorem dX3_readNumber_40 : decode cX3_readNumber 40 = .ok (.bipush 48, 2) := by decide +kernel
theorem dX3_readNumber_42 : decode cX3_readNumber 42 = .ok (.isub, 1) := by decide +kernel
theorem dX3_readNumber_43 : decode cX3_readNumber 43 = .ok (.istore 4, 2) := by decide +kernel
theorem dX3_readNumber_45 : decode cX3_readNumber 45 = .ok (.iinc 5 1, 3) := by decide +kernel
theorem dX3_readNumber_48 : decode cX3_readNumber 48 = .ok (.goto (-42), 3) := by decide +kernel
theorem dX3_readNumber_51 : decode cX3_readNumber 51 = .ok (.iload 5, 2) := by decide +kernel
theorem dX3_readNumber_53 : decode cX3_readNumber 53 = .ok (.iload_n 1, 1) := by decide +kernel
theorem dX3_readNumber_54 : decode cX3_readNumber 54 = .ok (.if_icmp .eq 14, 3) := by decide +kernel
theorem dX3_readNumber_57 : decode cX3_readNumber 57 = .ok (.aload_n 0, 1) := by decide +kernel
theorem dX3_readNumber_58 : decode cX3_readNumber 58 = .ok (.iload 5, 2) := by decide +kernel
theorem dX3_readNumber_60 : decode cX3_readNumber 60 = .ok (.iload_n 3, 1) := by decide +kernel
theorem dX3_readNumber_61 : decode cX3_readNumber 61 = .ok (.iload_n 3, 1) := by decide +kernel
theorem dX3_readNumber_62 : decode cX3_readNumber 62 = .ok (.invokevirtual 44, 3) := by decide +kernel
theorem dX3_readNumber_65 : decode cX3_readNumber 65 = .ok (.ifCond .ne 6, 3) := by decide +kernel
theorem dX3_readNumber_68 : decode cX3_readNumber 68 = .ok (.bipush (-4), 2) := by decide +kernel
theorem dX3_readNumber_70 : decode cX3_readNumber 70 = .ok (.ireturn, 1) := by decide +kernel
theorem dX3_readNumber_71 : decode cX3_readNumber 71 = .ok (.aload_n 0, 1) := by decide +kernel
theorem dX3_readNumber_72 : decode cX3_readNumber 72 = .ok (.getfield 19, 3) := by decide +kernel
theorem dX3_readNumber_75 : decode cX3_readNumber 75 = .ok (.iload_n 2, 1) := by decide +kernel
theorem dX3_readNumber_76 : decode cX3_readNumber 76 = .ok (.iload 4, 2) := by decide +kernel
theorem dX3_readNumber_78 : decode cX3_readNumber 78 = .ok (.iastore, 1) := by decide +kernel
theorem dX3_readNumber_79 : decode cX3_readNumber 79 = .ok (.iload 5, 2) := by decide +kernel
theorem dX3_readNumber_81 : decode cX3_readNumber 81 = .ok (.iconst 1, 1) := by decide +kernel
theorem dX3_readNumber_82 : decode cX3_readNumber 82 = .ok (.iadd, 1) := by decide +kernel
theorem dX3_readNumber_83 : decode cX3_readNumber 83 = .ok (.ireturn, 1) := by decide +kernel
theorem dX3_holds_0 : decode cX3_holds 0 = .ok (.iload_n 1, 1) := by decide +kernel
theorem dX3_holds_1 : decode cX3_holds 1 = .ok (.aload_n 0, 1) := by decide +kernel
theorem dX3_holds_2 : decode cX3_holds 2 = .ok (.getfield 15, 3) := by decide +kernel
theorem dX3_holds_5 : decode cX3_holds 5 = .ok (.if_icmp .ge 27, 3) := by decide +kernel
theorem dX3_holds_8 : decode cX3_holds 8 = .ok (.aload_n 0, 1) := by decide +kernel
theorem dX3_holds_9 : decode cX3_holds 9 = .ok (.getfield 9, 3) := by decide +kernel
theorem dX3_holds_12 : decode cX3_holds 12 = .ok (.iload_n 1, 1) := by decide +kernel
theorem dX3_holds_13 : decode cX3_holds 13 = .ok (.baload, 1) := by decide +kernel
theorem dX3_holds_14 : decode cX3_holds 14 = .ok (.iload_n 2, 1) := by decide +kernel
theorem dX3_holds_15 : decode cX3_holds 15 = .ok (.if_icmp .lt 17, 3) := by decide +kernel
theorem dX3_holds_18 : decode cX3_holds 18 = .ok (.aload_n 0, 1) := by decide +kernel
theorem dX3_holds_19 : decode cX3_holds 19 = .ok (.getfield 9, 3) := by decide +kernel
theorem dX3_holds_22 : decode cX3_holds 22 = .ok (.iload_n 1, 1) := by decide +kernel
theorem dX3_holds_23 : decode cX3_holds 23 = .ok (.baload, 1) := by decide +kernel
theorem dX3_holds_24 : decode cX3_holds 24 = .ok (.iload_n 3, 1) := by decide +kernel
theorem dX3_holds_25 : decode cX3_holds 25 = .ok (.if_icmp .gt 7, 3) := by decide +kernel
theorem dX3_holds_28 : decode cX3_holds 28 = .ok (.iconst 1, 1) := by decide +kernel
theorem dX3_holds_29 : decode cX3_holds 29 = .ok (.goto 4, 3) := by decide +kernel
theorem dX3_holds_32 : decode cX3_holds 32 = .ok (.iconst 0, 1) := by decide +kernel
theorem dX3_holds_33 : decode cX3_holds 33 = .ok (.ireturn, 1) := by decide +kernel
theorem dX3_numbersBehind_0 : decode cX3_numbersBehind 0 = .ok (.iload_n 0, 1) := by decide +kernel
theorem dX3_numbersBehind_1 : decode cX3_numbersBehind 1 = .ok (.tableswitch 73 108 119 #[67, 73, 73, 73, 63, 73, 73, 65, 71, 73, 73, 69], 63) := by decide +kernel
theorem dX3_numbersBehind_64 : decode cX3_numbersBehind 64 = .ok (.iconst 2, 1) := by decide +kernel
theorem dX3_numbersBehind_65 : decode cX3_numbersBehind 65 = .ok (.ireturn, 1) := by decide +kernel
theorem dX3_numbersBehind_66 : decode cX3_numbersBehind 66 = .ok (.iconst 3, 1) := by decide +kernel
theorem dX3_numbersBehind_67 : decode cX3_numbersBehind 67 = .ok (.ireturn, 1) := by decide +kernel
theorem dX3_numbersBehind_68 : decode cX3_numbersBehind 68 = .ok (.iconst 3, 1) := by decide +kernel
theorem dX3_numbersBehind_69 : decode cX3_numbersBehind 69 = .ok (.ireturn, 1) := by decide +kernel
theorem dX3_numbersBehind_70 : decode cX3_numbersBehind 70 = .ok (.iconst 1, 1) := by decide +kernel
theorem dX3_numbersBehind_71 : decode cX3_numbersBehind 71 = .ok (.ireturn, 1) := by decide +kernel
theorem dX3_numbersBehind_72 : decode cX3_numbersBehind 72 = .ok (.iconst 1, 1) := by decide +kernel
theorem dX3_numbersBehind_73 : decode cX3_numbersBehind 73 = .ok (.ireturn, 1) := by decide +kernel
theorem dX3_numbersBehind_74 : decode cX3_numbersBehind 74 = .ok (.iconst 0, 1) := by decide +kernel
theorem dX3_numbersBehind_75 : decode cX3_numbersBehind 75 = .ok (.ireturn, 1) := by decide +kernel
theorem dX4_init_0 : decode cX4_init 0 = .ok (.aload_n 0, 1) := by decide +kernel
theorem dX4_init_1 : decode cX4_init 1 = .ok (.invokespecial 3, 3) := by decide +kernel
theorem dX4_init_4 : decode cX4_init 4 = .ok (.aload_n 0, 1) := by decide +kernel
theorem dX4_init_5 : decode cX4_init 5 = .ok (.iconst 0, 1) := by decide +kernel
theorem dX4_init_6 : decode cX4_init 6 = .ok (.putfield 9, 3) := by decide +kernel
theorem dX4_init_9 : decode cX4_init 9 = .ok (.aload_n 0, 1) := by decide +kernel
theorem dX4_init_10 : decode cX4_init 10 = .ok (.bipush (-4), 2) := by decide +kernel
theorem dX4_init_12 : decode cX4_init 12 = .ok (.putfield 15, 3) := by decide +kernel
theorem dX4_init_15 : decode cX4_init 15 = .ok (.aload_n 0, 1) := by decide +kernel
theorem dX4_init_16 : decode cX4_init 16 = .ok (.bipush 9, 2) := by decide +kernel
theorem dX4_init_18 : decode cX4_init 18 = .ok (.bipush 41, 2) := by decide +kernel
theorem dX4_init_20 : decode cX4_init 20 = .ok (.multianewarray 18 2, 4) := by decide +kernel
theorem dX4_init_24 : decode cX4_init 24 = .ok (.putfield 20, 3) := by decide +kernel
theorem dX4_init_27 : decode cX4_init 27 = .ok (.aload_n 0, 1) := by decide +kernel
theorem dX4_init_28 : decode cX4_init 28 = .ok (.bipush 9, 2) := by decide +kernel
theorem dX4_init_30 : decode cX4_init 30 = .ok (.newarray .int, 2) := by decide +kernel
theorem dX4_init_32 : decode cX4_init 32 = .ok (.putfield 23, 3) := by decide +kernel
theorem dX4_init_35 : decode cX4_init 35 = .ok (.aload_n 0, 1) := by decide +kernel
theorem dX4_init_36 : decode cX4_init 36 = .ok (.sipush 512, 3) := by decide +kernel
theorem dX4_init_39 : decode cX4_init 39 = .ok (.newarray .int, 2) := by decide +kernel
theorem dX4_init_41 : decode cX4_init 41 = .ok (.putfield 27, 3) := by decide +kernel
theorem dX4_init_44 : decode cX4_init 44 = .ok (.return_, 1) := by decide +kernel
set_option maxRecDepth 20000 in
theorem ggX4_run_X7_walk : GoodIn wsX4_run wsX7_walk := goodIn_r _ [10, 11, 12, 13, 14, 9, 15, 16, 17, 18, 19, 20, 21, 22, 23, 24, 25, 26, 27, 28, 48, 49, 50, 51, 52, 53, 54, 55, 56] (by decide +kernel) (by decide +kernel)
set_option maxRecDepth 20000 in
theorem gX4_run_X7_walk : GoodIn wsX4_run (wsV RX4 35 RX7 yX7_walk wsX7_walk) := goodIn_app (goodIn_of _ (by decide +kernel)) ggX4_run_X7_walk
set_option maxRecDepth 20000 in
theorem ggX4_run_J7_fill_53178 : GoodIn wsX4_run wsJ7_fill_53178 := goodIn_r _ [32] (by decide +kernel) (by decide +kernel)
set_option maxRecDepth 20000 in
theorem gX4_run_J7_fill_53178 : GoodIn wsX4_run (va_wsS RX4 39 yJ7_fill_53178 wsJ7_fill_53178) := goodIn_app (goodIn_of _ (by decide +kernel)) ggX4_run_J7_fill_53178
set_option maxRecDepth 20000 in
theorem ggX4_run_X4_lookOnce : GoodIn wsX4_run wsX4_lookOnce := goodIn_r _ [37, 38, 4, 5, 3, 29, 30, 31, 32, 39, 40, 41, 36, 42, 43, 44, 45, 46, 47, 48, 49, 50, 51, 52, 53, 54, 55, 56] (by decide +kernel) (by decide +kernel)
set_option maxRecDepth 20000 in
theorem gX4_run_X4_lookOnce : GoodIn wsX4_run (wsV RX4 45 RX4 yX4_lookOnce wsX4_lookOnce) := goodIn_app (goodIn_of _ (by decide +kernel)) ggX4_run_X4_lookOnce
theorem dX4_run_0 : decode cX4_run 0 = .ok (.aload_n 0, 1) := by decide +kernel
theorem dX4_run_1 : decode cX4_run 1 = .ok (.iconst 0, 1) := by decide +kernel
theorem dX4_run_2 : decode cX4_run 2 = .ok (.putfield 9, 3) := by decide +kernel
theorem dX4_run_5 : decode cX4_run 5 = .ok (.aload_n 0, 1) := by decide +kernel
theorem dX4_run_6 : decode cX4_run 6 = .ok (.bipush (-4), 2) := by decide +kernel
theorem dX4_run_8 : decode cX4_run 8 = .ok (.putfield 15, 3) := by decide +kernel
theorem dX4_run_11 : decode cX4_run 11 = .ok (.iload_n 3, 1) := by decide +kernel
theorem dX4_run_12 : decode cX4_run 12 = .ok (.ifCond .le 12, 3) := by decide +kernel
theorem dX4_run_15 : decode cX4_run 15 = .ok (.iload_n 3, 1) := by decide +kernel
theorem dX4_run_16 : decode cX4_run 16 = .ok (.aload_n 0, 1) := by decide +kernel
theorem dX4_run_17 : decode cX4_run 17 = .ok (.getfield 27, 3) := by decide +kernel
theorem dX4_run_20 : decode cX4_run 20 = .ok (.arraylength, 1) := by decide +kernel
theorem dX4_run_21 : decode cX4_run 21 = .ok (.if_icmp .lt 4, 3) := by decide +kernel
theorem dX4_run_24 : decode cX4_run 24 = .ok (.return_, 1) := by decide +kernel
theorem dX4_run_25 : decode cX4_run 25 = .ok (.iconst 0, 1) := by decide +kernel
theorem dX4_run_26 : decode cX4_run 26 = .ok (.istore 4, 2) := by decide +kernel
theorem dX4_run_28 : decode cX4_run 28 = .ok (.iload 4, 2) := by decide +kernel
theorem dX4_run_30 : decode cX4_run 30 = .ok (.aload_n 1, 1) := by decide +kernel
theorem dX4_run_31 : decode cX4_run 31 = .ok (.getfield 30, 3) := by decide +kernel
theorem dX4_run_34 : decode cX4_run 34 = .ok (.if_icmp .ge 23, 3) := by decide +kernel
theorem dX4_run_37 : decode cX4_run 37 = .ok (.aload_n 1, 1) := by decide +kernel
theorem dX4_run_38 : decode cX4_run 38 = .ok (.iload 4, 2) := by decide +kernel
theorem dX4_run_40 : decode cX4_run 40 = .ok (.iload_n 2, 1) := by decide +kernel
theorem dX4_run_41 : decode cX4_run 41 = .ok (.aload_n 0, 1) := by decide +kernel
theorem dX4_run_42 : decode cX4_run 42 = .ok (.getfield 20, 3) := by decide +kernel
theorem dX4_run_45 : decode cX4_run 45 = .ok (.iload 4, 2) := by decide +kernel
theorem dX4_run_47 : decode cX4_run 47 = .ok (.aaload, 1) := by decide +kernel
theorem dX4_run_48 : decode cX4_run 48 = .ok (.invokevirtual 35, 3) := by decide +kernel
theorem dX4_run_51 : decode cX4_run 51 = .ok (.iinc 4 1, 3) := by decide +kernel
theorem dX4_run_54 : decode cX4_run 54 = .ok (.goto (-26), 3) := by decide +kernel
theorem dX4_run_57 : decode cX4_run 57 = .ok (.aload_n 0, 1) := by decide +kernel
theorem dX4_run_58 : decode cX4_run 58 = .ok (.getfield 27, 3) := by decide +kernel
theorem dX4_run_61 : decode cX4_run 61 = .ok (.bipush (-4), 2) := by decide +kernel
theorem dX4_run_63 : decode cX4_run 63 = .ok (.invokestatic 39, 3) := by decide +kernel
theorem dX4_run_66 : decode cX4_run 66 = .ok (.aload_n 0, 1) := by decide +kernel
theorem dX4_run_67 : decode cX4_run 67 = .ok (.getfield 27, 3) := by decide +kernel
theorem dX4_run_70 : decode cX4_run 70 = .ok (.iload_n 3, 1) := by decide +kernel
theorem dX4_run_71 : decode cX4_run 71 = .ok (.iconst 0, 1) := by decide +kernel
theorem dX4_run_72 : decode cX4_run 72 = .ok (.iastore, 1) := by decide +kernel
theorem dX4_run_73 : decode cX4_run 73 = .ok (.iconst 1, 1) := by decide +kernel
theorem dX4_run_74 : decode cX4_run 74 = .ok (.istore 4, 2) := by decide +kernel
theorem dX4_run_76 : decode cX4_run 76 = .ok (.iload 4, 2) := by decide +kernel
theorem dX4_run_78 : decode cX4_run 78 = .ok (.bipush 40, 2) := by decide +kernel
theorem dX4_run_80 : decode cX4_run 80 = .ok (.if_icmp .gt 45, 3) := by decide +kernel
theorem dX4_run_83 : decode cX4_run 83 = .ok (.aload_n 0, 1) := by decide +kernel
theorem dX4_run_84 : decode cX4_run 84 = .ok (.aload_n 1, 1) := by decide +kernel
theorem dX4_run_85 : decode cX4_run 85 = .ok (.iload 4, 2) := by decide +kernel
theorem dX4_run_87 : decode cX4_run 87 = .ok (.iload_n 3, 1) := by decide +kernel
theorem dX4_run_88 : decode cX4_run 88 = .ok (.invokevirtual 45, 3) := by decide +kernel
theorem dX4_run_91 : decode cX4_run 91 = .ok (.aload_n 0, 1) := by decide +kernel
theorem dX4_run_92 : decode cX4_run 92 = .ok (.getfield 27, 3) := by decide +kernel
theorem dX4_run_95 : decode cX4_run 95 = .ok (.iconst 0, 1) := by decide +kernel
theorem dX4_run_96 : decode cX4_run 96 = .ok (.iaload, 1) := by decide +kernel
theorem dX4_run_97 : decode cX4_run 97 = .ok (.bipush (-4), 2) := by decide +kernel
theorem dX4_run_99 : decode cX4_run 99 = .ok (.if_icmp .eq 20, 3) := by decide +kernel
theorem dX4_run_102 : decode cX4_run 102 = .ok (.aload_n 0, 1) := by decide +kernel
theorem dX4_run_103 : decode cX4_run 103 = .ok (.iload 4, 2) := by decide +kernel
theorem dX4_run_105 : decode cX4_run 105 = .ok (.putfield 9, 3) := by decide +kernel
theorem dX4_run_108 : decode cX4_run 108 = .ok (.aload_n 0, 1) := by decide +kernel
theorem dX4_run_109 : decode cX4_run 109 = .ok (.aload_n 0, 1) := by decide +kernel
theorem dX4_run_110 : decode cX4_run 110 = .ok (.getfield 27, 3) := by decide +kernel
theorem dX4_run_113 : decode cX4_run 113 = .ok (.iconst 0, 1) := by decide +kernel
theorem dX4_run_114 : decode cX4_run 114 = .ok (.iaload, 1) := by decide +kernel
theorem dX4_run_115 : decode cX4_run 115 = .ok (.putfield 15, 3) := by decide +kernel
theorem dX4_run_118 : decode cX4_run 118 = .ok (.return_, 1) := by decide +kernel
theorem dX4_run_119 : decode cX4_run 119 = .ok (.iinc 4 1, 3) := by decide +kernel
theorem dX4_run_122 : decode cX4_run 122 = .ok (.goto (-46), 3) := by decide +kernel
theorem dX4_run_125 : decode cX4_run 125 = .ok (.aload_n 0, 1) := by decide +kernel
theorem dX4_run_126 : decode cX4_run 126 = .ok (.bipush (-4), 2) := by decide +kernel
theorem dX4_run_128 : decode cX4_run 128 = .ok (.putfield 9, 3) := by decide +kernel
theorem dX4_run_131 : decode cX4_run 131 = .ok (.return_, 1) := by decide +kernel
set_option maxRecDepth 20000 in
theorem ggX4_lookOnce_J7_fill_53178 : GoodIn wsX4_lookOnce wsJ7_fill_53178 := goodIn_r _ [8] (by decide +kernel) (by decide +kernel)
set_option maxRecDepth 20000 in
theorem gX4_lookOnce_J7_fill_53178 : GoodIn wsX4_lookOnce (va_wsS RX4 39 yJ7_fill_53178 wsJ7_fill_53178) := goodIn_app (goodIn_of _ (by decide +kernel)) ggX4_lookOnce_J7_fill_53178
set_option maxRecDepth 20000 in
theorem ggX4_lookOnce_X4_leave : GoodIn wsX4_lookOnce wsX4_leave := goodIn_r _ [13, 4, 14, 15, 16, 17, 18] (by decide +kernel) (by decide +kernel)
set_option maxRecDepth 20000 in
theorem gX4_lookOnce_X4_leave : GoodIn wsX4_lookOnce (wsV RX4 49 RX4 yX4_leave wsX4_leave) := goodIn_app (goodIn_of _ (by decide +kernel)) ggX4_lookOnce_X4_leave
theorem dX4_lookOnce_0 : decode cX4_lookOnce 0 = .ok (.aload_n 0, 1) := by decide +kernel
theorem dX4_lookOnce_1 : decode cX4_lookOnce 1 = .ok (.getfield 23, 3) := by decide +kernel
theorem dX4_lookOnce_4 : decode cX4_lookOnce 4 = .ok (.iconst 0, 1) := by decide +kernel
theorem dX4_lookOnce_5 : decode cX4_lookOnce 5 = .ok (.invokestatic 39, 3) := by decide +kernel
theorem dX4_lookOnce_8 : decode cX4_lookOnce 8 = .ok (.iconst 0, 1) := by decide +kernel
theorem dX4_lookOnce_9 : decode cX4_lookOnce 9 = .ok (.istore 4, 2) := by decide +kernel
theorem dX4_lookOnce_11 : decode cX4_lookOnce 11 = .ok (.iload 4, 2) := by decide +kernel
theorem dX4_lookOnce_13 : decode cX4_lookOnce 13 = .ok (.aload_n 1, 1) := by decide +kernel
theorem dX4_lookOnce_14 : decode cX4_lookOnce 14 = .ok (.getfield 30, 3) := by decide +kernel
theorem dX4_lookOnce_17 : decode cX4_lookOnce 17 = .ok (.if_icmp .ge 30, 3) := by decide +kernel
theorem dX4_lookOnce_20 : decode cX4_lookOnce 20 = .ok (.aload_n 0, 1) := by decide +kernel
theorem dX4_lookOnce_21 : decode cX4_lookOnce 21 = .ok (.getfield 23, 3) := by decide +kernel
theorem dX4_lookOnce_24 : decode cX4_lookOnce 24 = .ok (.aload_n 0, 1) := by decide +kernel
theorem dX4_lookOnce_25 : decode cX4_lookOnce 25 = .ok (.getfield 20, 3) := by decide +kernel
theorem dX4_lookOnce_28 : decode cX4_lookOnce 28 = .ok (.iload 4, 2) := by decide +kernel
theorem dX4_lookOnce_30 : decode cX4_lookOnce 30 = .ok (.aaload, 1) := by decide +kernel
theorem dX4_lookOnce_31 : decode cX4_lookOnce 31 = .ok (.iload_n 2, 1) := by decide +kernel
theorem dX4_lookOnce_32 : decode cX4_lookOnce 32 = .ok (.iaload, 1) := by decide +kernel
theorem dX4_lookOnce_33 : decode cX4_lookOnce 33 = .ok (.dup2, 1) := by decide +kernel
theorem dX4_lookOnce_34 : decode cX4_lookOnce 34 = .ok (.iaload, 1) := by decide +kernel
theorem dX4_lookOnce_35 : decode cX4_lookOnce 35 = .ok (.iconst 1, 1) := by decide +kernel
theorem dX4_lookOnce_36 : decode cX4_lookOnce 36 = .ok (.iload 4, 2) := by decide +kernel
theorem dX4_lookOnce_38 : decode cX4_lookOnce 38 = .ok (.ishl, 1) := by decide +kernel
theorem dX4_lookOnce_39 : decode cX4_lookOnce 39 = .ok (.ior, 1) := by decide +kernel
theorem dX4_lookOnce_40 : decode cX4_lookOnce 40 = .ok (.iastore, 1) := by decide +kernel
theorem dX4_lookOnce_41 : decode cX4_lookOnce 41 = .ok (.iinc 4 1, 3) := by decide +kernel
theorem dX4_lookOnce_44 : decode cX4_lookOnce 44 = .ok (.goto (-33), 3) := by decide +kernel
theorem dX4_lookOnce_47 : decode cX4_lookOnce 47 = .ok (.iconst 0, 1) := by decide +kernel
theorem dX4_lookOnce_48 : decode cX4_lookOnce 48 = .ok (.istore 4, 2) := by decide +kernel
theorem dX4_lookOnce_50 : decode cX4_lookOnce 50 = .ok (.iload 4, 2) := by decide +kernel
theorem dX4_lookOnce_52 : decode cX4_lookOnce 52 = .ok (.iload_n 3, 1) := by decide +kernel
theorem dX4_lookOnce_53 : decode cX4_lookOnce 53 = .ok (.if_icmp .gt 80, 3) := by decide +kernel
theorem dX4_lookOnce_56 : decode cX4_lookOnce 56 = .ok (.aload_n 0, 1) := by decide +kernel
theorem dX4_lookOnce_57 : decode cX4_lookOnce 57 = .ok (.getfield 27, 3) := by decide +kernel
theorem dX4_lookOnce_60 : decode cX4_lookOnce 60 = .ok (.iload 4, 2) := by decide +kernel
theorem dX4_lookOnce_62 : decode cX4_lookOnce 62 = .ok (.iaload, 1) := by decide +kernel
theorem dX4_lookOnce_63 : decode cX4_lookOnce 63 = .ok (.istore 5, 2) := by decide +kernel
theorem dX4_lookOnce_65 : decode cX4_lookOnce 65 = .ok (.aload_n 0, 1) := by decide +kernel
theorem dX4_lookOnce_66 : decode cX4_lookOnce 66 = .ok (.getfield 27, 3) := by decide +kernel
theorem dX4_lookOnce_69 : decode cX4_lookOnce 69 = .ok (.iload 4, 2) := by decide +kernel
theorem dX4_lookOnce_71 : decode cX4_lookOnce 71 = .ok (.bipush (-4), 2) := by decide +kernel
theorem dX4_lookOnce_73 : decode cX4_lookOnce 73 = .ok (.iastore, 1) := by decide +kernel
theorem dX4_lookOnce_74 : decode cX4_lookOnce 74 = .ok (.iconst 0, 1) := by decide +kernel
theorem dX4_lookOnce_75 : decode cX4_lookOnce 75 = .ok (.istore 6, 2) := by decide +kernel
theorem dX4_lookOnce_77 : decode cX4_lookOnce 77 = .ok (.iload 6, 2) := by decide +kernel
theorem dX4_lookOnce_79 : decode cX4_lookOnce 79 = .ok (.aload_n 1, 1) := by decide +kernel
theorem dX4_lookOnce_80 : decode cX4_lookOnce 80 = .ok (.getfield 30, 3) := by decide +kernel
theorem dX4_lookOnce_83 : decode cX4_lookOnce 83 = .ok (.if_icmp .ge 44, 3) := by decide +kernel
theorem dX4_lookOnce_86 : decode cX4_lookOnce 86 = .ok (.iload 5, 2) := by decide +kernel
theorem dX4_lookOnce_88 : decode cX4_lookOnce 88 = .ok (.bipush (-4), 2) := by decide +kernel
theorem dX4_lookOnce_90 : decode cX4_lookOnce 90 = .ok (.if_icmp .eq 37, 3) := by decide +kernel
theorem dX4_lookOnce_93 : decode cX4_lookOnce 93 = .ok (.aload_n 0, 1) := by decide +kernel
theorem dX4_lookOnce_94 : decode cX4_lookOnce 94 = .ok (.iload 4, 2) := by decide +kernel
theorem dX4_lookOnce_96 : decode cX4_lookOnce 96 = .ok (.aload_n 0, 1) := by decide +kernel
theorem dX4_lookOnce_97 : decode cX4_lookOnce 97 = .ok (.getfield 23, 3) := by decide +kernel
theorem dX4_lookOnce_100 : decode cX4_lookOnce 100 = .ok (.iload 6, 2) := by decide +kernel
theorem dX4_lookOnce_102 : decode cX4_lookOnce 102 = .ok (.iaload, 1) := by decide +kernel
theorem dX4_lookOnce_103 : decode cX4_lookOnce 103 = .ok (.iconst (-1), 1) := by decide +kernel
theorem dX4_lookOnce_104 : decode cX4_lookOnce 104 = .ok (.ixor, 1) := by decide +kernel
theorem dX4_lookOnce_105 : decode cX4_lookOnce 105 = .ok (.iand, 1) := by decide +kernel
theorem dX4_lookOnce_106 : decode cX4_lookOnce 106 = .ok (.iload_n 2, 1) := by decide +kernel
theorem dX4_lookOnce_107 : decode cX4_lookOnce 107 = .ok (.iconst 1, 1) := by decide +kernel
theorem dX4_lookOnce_108 : decode cX4_lookOnce 108 = .ok (.if_icmp .ne 8, 3) := by decide +kernel
theorem dX4_lookOnce_111 : decode cX4_lookOnce 111 = .ok (.iload 6, 2) := by decide +kernel
theorem dX4_lookOnce_113 : decode cX4_lookOnce 113 = .ok (.goto 5, 3) := by decide +kernel
theorem dX4_lookOnce_116 : decode cX4_lookOnce 116 = .ok (.iload 5, 2) := by decide +kernel
theorem dX4_lookOnce_118 : decode cX4_lookOnce 118 = .ok (.invokevirtual 49, 3) := by decide +kernel
theorem dX4_lookOnce_121 : decode cX4_lookOnce 121 = .ok (.iinc 6 1, 3) := by decide +kernel
theorem dX4_lookOnce_124 : decode cX4_lookOnce 124 = .ok (.goto (-47), 3) := by decide +kernel
theorem dX4_lookOnce_127 : decode cX4_lookOnce 127 = .ok (.iinc 4 1, 3) := by decide +kernel
theorem dX4_lookOnce_130 : decode cX4_lookOnce 130 = .ok (.goto (-80), 3) := by decide +kernel
theorem dX4_lookOnce_133 : decode cX4_lookOnce 133 = .ok (.return_, 1) := by decide +kernel
theorem dX4_leave_0 : decode cX4_leave 0 = .ok (.aload_n 0, 1) := by decide +kernel
theorem dX4_leave_1 : decode cX4_leave 1 = .ok (.getfield 27, 3) := by decide +kernel
theorem dX4_leave_4 : decode cX4_leave 4 = .ok (.iload_n 1, 1) := by decide +kernel
theorem dX4_leave_5 : decode cX4_leave 5 = .ok (.iaload, 1) := by decide +kernel
theorem dX4_leave_6 : decode cX4_leave 6 = .ok (.bipush (-4), 2) := by decide +kernel
theorem dX4_leave_8 : decode cX4_leave 8 = .ok (.if_icmp .eq 13, 3) := by decide +kernel
theorem dX4_leave_11 : decode cX4_leave 11 = .ok (.iload_n 2, 1) := by decide +kernel
theorem dX4_leave_12 : decode cX4_leave 12 = .ok (.aload_n 0, 1) := by decide +kernel
theorem dX4_leave_13 : decode cX4_leave 13 = .ok (.getfield 27, 3) := by decide +kernel
theorem dX4_leave_16 : decode cX4_leave 16 = .ok (.iload_n 1, 1) := by decide +kernel
theorem dX4_leave_17 : decode cX4_leave 17 = .ok (.iaload, 1) := by decide +kernel
theorem dX4_leave_18 : decode cX4_leave 18 = .ok (.if_icmp .ge 10, 3) := by decide +kernel
theorem dX4_leave_21 : decode cX4_leave 21 = .ok (.aload_n 0, 1) := by decide +kernel
theorem dX4_leave_22 : decode cX4_leave 22 = .ok (.getfield 27, 3) := by decide +kernel
theorem dX4_leave_25 : decode cX4_leave 25 = .ok (.iload_n 1, 1) := by decide +kernel
theorem dX4_leave_26 : decode cX4_leave 26 = .ok (.iload_n 2, 1) := by decide +kernel
theorem dX4_leave_27 : decode cX4_leave 27 = .ok (.iastore, 1) := by decide +kernel
theorem dX4_leave_28 : decode cX4_leave 28 = .ok (.return_, 1) := by decide +kernel
set_option maxRecDepth 20000 in
theorem ggX5_init_X2_init : GoodIn wsX5_init wsX2_init := goodIn_r _ [10, 11, 2, 3, 12, 13, 14, 15, 16, 17, 20, 21, 22, 23, 24] (by decide +kernel) (by decide +kernel)
set_option maxRecDepth 20000 in
theorem gX5_init_X2_init_n15 : GoodIn wsX5_init (wsX2_init) := ggX5_init_X2_init
theorem dX5_init_0 : decode cX5_init 0 = .ok (.aload_n 0, 1) := by decide +kernel
theorem dX5_init_1 : decode cX5_init 1 = .ok (.invokespecial 1, 3) := by decide +kernel
theorem dX5_init_4 : decode cX5_init 4 = .ok (.aload_n 0, 1) := by decide +kernel
theorem dX5_init_5 : decode cX5_init 5 = .ok (.iconst 0, 1) := by decide +kernel
theorem dX5_init_6 : decode cX5_init 6 = .ok (.putfield 7, 3) := by decide +kernel
theorem dX5_init_9 : decode cX5_init 9 = .ok (.aload_n 0, 1) := by decide +kernel
theorem dX5_init_10 : decode cX5_init 10 = .ok (.iconst 2, 1) := by decide +kernel
theorem dX5_init_11 : decode cX5_init 11 = .ok (.anewarray 13, 3) := by decide +kernel
theorem dX5_init_14 : decode cX5_init 14 = .ok (.dup, 1) := by decide +kernel
theorem dX5_init_15 : decode cX5_init 15 = .ok (.iconst 0, 1) := by decide +kernel
theorem dX5_init_16 : decode cX5_init 16 = .ok (.new 13, 3) := by decide +kernel
theorem dX5_init_19 : decode cX5_init 19 = .ok (.dup, 1) := by decide +kernel
theorem dX5_init_20 : decode cX5_init 20 = .ok (.invokespecial 15, 3) := by decide +kernel
theorem dX5_init_23 : decode cX5_init 23 = .ok (.aastore, 1) := by decide +kernel
theorem dX5_init_24 : decode cX5_init 24 = .ok (.dup, 1) := by decide +kernel
theorem dX5_init_25 : decode cX5_init 25 = .ok (.iconst 1, 1) := by decide +kernel
theorem dX5_init_26 : decode cX5_init 26 = .ok (.new 13, 3) := by decide +kernel
theorem dX5_init_29 : decode cX5_init 29 = .ok (.dup, 1) := by decide +kernel
theorem dX5_init_30 : decode cX5_init 30 = .ok (.invokespecial 15, 3) := by decide +kernel
theorem dX5_init_33 : decode cX5_init 33 = .ok (.aastore, 1) := by decide +kernel
theorem dX5_init_34 : decode cX5_init 34 = .ok (.putfield 16, 3) := by decide +kernel
theorem dX5_init_37 : decode cX5_init 37 = .ok (.return_, 1) := by decide +kernel
set_option maxRecDepth 20000 in
theorem ggX5_put_X2_copyOf : GoodIn wsX5_put wsX2_copyOf := goodIn_r _ [7, 8, 9, 10, 11, 12, 13, 14, 15, 16, 19, 20, 21, 22, 23] (by decide +kernel) (by decide +kernel)
set_option maxRecDepth 20000 in
theorem gX5_put_X2_copyOf : GoodIn wsX5_put (wsV RX5 20 RX2 yX2_copyOf wsX2_copyOf) := goodIn_app (goodIn_of _ (by decide +kernel)) ggX5_put_X2_copyOf
theorem dX5_put_0 : decode cX5_put 0 = .ok (.aload_n 0, 1) := by decide +kernel
theorem dX5_put_1 : decode cX5_put 1 = .ok (.getfield 7, 3) := by decide +kernel
theorem dX5_put_4 : decode cX5_put 4 = .ok (.aload_n 0, 1) := by decide +kernel
theorem dX5_put_5 : decode cX5_put 5 = .ok (.getfield 16, 3) := by decide +kernel
theorem dX5_put_8 : decode cX5_put 8 = .ok (.arraylength, 1) := by decide +kernel
theorem dX5_put_9 : decode cX5_put 9 = .ok (.if_icmp .lt 5, 3) := by decide +kernel
theorem dX5_put_12 : decode cX5_put 12 = .ok (.iconst 0, 1) := by decide +kernel
theorem dX5_put_13 : decode cX5_put 13 = .ok (.ireturn, 1) := by decide +kernel
theorem dX5_put_14 : decode cX5_put 14 = .ok (.aload_n 0, 1) := by decide +kernel
theorem dX5_put_15 : decode cX5_put 15 = .ok (.getfield 16, 3) := by decide +kernel
theorem dX5_put_18 : decode cX5_put 18 = .ok (.aload_n 0, 1) := by decide +kernel
theorem dX5_put_19 : decode cX5_put 19 = .ok (.getfield 7, 3) := by decide +kernel
theorem dX5_put_22 : decode cX5_put 22 = .ok (.aaload, 1) := by decide +kernel
theorem dX5_put_23 : decode cX5_put 23 = .ok (.aload_n 1, 1) := by decide +kernel
theorem dX5_put_24 : decode cX5_put 24 = .ok (.invokevirtual 20, 3) := by decide +kernel
theorem dX5_put_27 : decode cX5_put 27 = .ok (.aload_n 0, 1) := by decide +kernel
theorem dX5_put_28 : decode cX5_put 28 = .ok (.dup, 1) := by decide +kernel
theorem dX5_put_29 : decode cX5_put 29 = .ok (.getfield 7, 3) := by decide +kernel
theorem dX5_put_32 : decode cX5_put 32 = .ok (.iconst 1, 1) := by decide +kernel
theorem dX5_put_33 : decode cX5_put 33 = .ok (.iadd, 1) := by decide +kernel
theorem dX5_put_34 : decode cX5_put 34 = .ok (.putfield 7, 3) := by decide +kernel
theorem dX5_put_37 : decode cX5_put 37 = .ok (.iconst 1, 1) := by decide +kernel
theorem dX5_put_38 : decode cX5_put 38 = .ok (.ireturn, 1) := by decide +kernel
set_option maxRecDepth 20000 in
theorem ggX5_takeLast_X2_copyOf : GoodIn wsX5_takeLast wsX2_copyOf := goodIn_r _ [7, 8, 9, 10, 11, 12, 13, 14, 15, 16, 19, 20, 21, 22, 23] (by decide +kernel) (by decide +kernel)
set_option maxRecDepth 20000 in
theorem gX5_takeLast_X2_copyOf : GoodIn wsX5_takeLast (wsV RX5 20 RX2 yX2_copyOf wsX2_copyOf) := goodIn_app (goodIn_of _ (by decide +kernel)) ggX5_takeLast_X2_copyOf
theorem dX5_takeLast_0 : decode cX5_takeLast 0 = .ok (.aload_n 0, 1) := by decide +kernel
theorem dX5_takeLast_1 : decode cX5_takeLast 1 = .ok (.getfield 7, 3) := by decide +kernel
theorem dX5_takeLast_4 : decode cX5_takeLast 4 = .ok (.iconst 1, 1) := by decide +kernel
theorem dX5_takeLast_5 : decode cX5_takeLast 5 = .ok (.if_icmp .ge 5, 3) := by decide +kernel
theorem dX5_takeLast_8 : decode cX5_takeLast 8 = .ok (.iconst 0, 1) := by decide +kernel
theorem dX5_takeLast_9 : decode cX5_takeLast 9 = .ok (.ireturn, 1) := by decide +kernel
theorem dX5_takeLast_10 : decode cX5_takeLast 10 = .ok (.aload_n 0, 1) := by decide +kernel
theorem dX5_takeLast_11 : decode cX5_takeLast 11 = .ok (.dup, 1) := by decide +kernel
theorem dX5_takeLast_12 : decode cX5_takeLast 12 = .ok (.getfield 7, 3) := by decide +kernel
theorem dX5_takeLast_15 : decode cX5_takeLast 15 = .ok (.iconst 1, 1) := by decide +kernel
theorem dX5_takeLast_16 : decode cX5_takeLast 16 = .ok (.isub, 1) := by decide +kernel
theorem dX5_takeLast_17 : decode cX5_takeLast 17 = .ok (.putfield 7, 3) := by decide +kernel
theorem dX5_takeLast_20 : decode cX5_takeLast 20 = .ok (.aload_n 1, 1) := by decide +kernel
theorem dX5_takeLast_21 : decode cX5_takeLast 21 = .ok (.aload_n 0, 1) := by decide +kernel
theorem dX5_takeLast_22 : decode cX5_takeLast 22 = .ok (.getfield 16, 3) := by decide +kernel
theorem dX5_takeLast_25 : decode cX5_takeLast 25 = .ok (.aload_n 0, 1) := by decide +kernel
theorem dX5_takeLast_26 : decode cX5_takeLast 26 = .ok (.getfield 7, 3) := by decide +kernel
theorem dX5_takeLast_29 : decode cX5_takeLast 29 = .ok (.aaload, 1) := by decide +kernel
theorem dX5_takeLast_30 : decode cX5_takeLast 30 = .ok (.invokevirtual 20, 3) := by decide +kernel
theorem dX5_takeLast_33 : decode cX5_takeLast 33 = .ok (.iconst 1, 1) := by decide +kernel
theorem dX5_takeLast_34 : decode cX5_takeLast 34 = .ok (.ireturn, 1) := by decide +kernel
theorem dX6_init_0 : decode cX6_init 0 = .ok (.aload_n 0, 1) := by decide +kernel
theorem dX6_init_1 : decode cX6_init 1 = .ok (.invokespecial 3, 3) := by decide +kernel
theorem dX6_init_4 : decode cX6_init 4 = .ok (.aload_n 0, 1) := by decide +kernel
theorem dX6_init_5 : decode cX6_init 5 = .ok (.iconst 0, 1) := by decide +kernel
theorem dX6_init_6 : decode cX6_init 6 = .ok (.putfield 9, 3) := by decide +kernel
theorem dX6_init_9 : decode cX6_init 9 = .ok (.aload_n 0, 1) := by decide +kernel
theorem dX6_init_10 : decode cX6_init 10 = .ok (.bipush 8, 2) := by decide +kernel
theorem dX6_init_12 : decode cX6_init 12 = .ok (.newarray .int, 2) := by decide +kernel
theorem dX6_init_14 : decode cX6_init 14 = .ok (.putfield 15, 3) := by decide +kernel
theorem dX6_init_17 : decode cX6_init 17 = .ok (.aload_n 0, 1) := by decide +kernel
theorem dX6_init_18 : decode cX6_init 18 = .ok (.bipush 8, 2) := by decide +kernel
theorem dX6_init_20 : decode cX6_init 20 = .ok (.newarray .int, 2) := by decide +kernel
theorem dX6_init_22 : decode cX6_init 22 = .ok (.putfield 19, 3) := by decide +kernel
theorem dX6_init_25 : decode cX6_init 25 = .ok (.aload_n 0, 1) := by decide +kernel
theorem dX6_init_26 : decode cX6_init 26 = .ok (.bipush 8, 2) := by decide +kernel
theorem dX6_init_28 : decode cX6_init 28 = .ok (.newarray .int, 2) := by decide +kernel
theorem dX6_init_30 : decode cX6_init 30 = .ok (.putfield 22, 3) := by decide +kernel
theorem dX6_init_33 : decode cX6_init 33 = .ok (.aload_n 0, 1) := by decide +kernel
theorem dX6_init_34 : decode cX6_init 34 = .ok (.bipush 8, 2) := by decide +kernel
theorem dX6_init_36 : decode cX6_init 36 = .ok (.newarray .boolean, 2) := by decide +kernel
theorem dX6_init_38 : decode cX6_init 38 = .ok (.putfield 25, 3) := by decide +kernel
theorem dX6_init_41 : decode cX6_init 41 = .ok (.aload_n 0, 1) := by decide +kernel
theorem dX6_init_42 : decode cX6_init 42 = .ok (.bipush 61, 2) := by decide +kernel
theorem dX6_init_44 : decode cX6_init 44 = .ok (.newarray .int, 2) := by decide +kernel
theorem dX6_init_46 : decode cX6_init 46 = .ok (.putfield 29, 3) := by decide +kernel
theorem dX6_init_49 : decode cX6_init 49 = .ok (.return_, 1) := by decide +kernel
theorem dX6_add_0 : decode cX6_add 0 = .ok (.aload_n 0, 1) := by decide +kernel
theorem dX6_add_1 : decode cX6_add 1 = .ok (.getfield 9, 3) := by decide +kernel
theorem dX6_add_4 : decode cX6_add 4 = .ok (.bipush 8, 2) := by decide +kernel
theorem dX6_add_6 : decode cX6_add 6 = .ok (.if_icmp .lt 5, 3) := by decide +kernel
theorem dX6_add_9 : decode cX6_add 9 = .ok (.iconst 0, 1) := by decide +kernel
theorem dX6_add_10 : decode cX6_add 10 = .ok (.ireturn, 1) := by decide +kernel
theorem dX6_add_11 : decode cX6_add 11 = .ok (.aload_n 0, 1) := by decide +kernel
theorem dX6_add_12 : decode cX6_add 12 = .ok (.getfield 15, 3) := by decide +kernel
theorem dX6_add_15 : decode cX6_add 15 = .ok (.aload_n 0, 1) := by decide +kernel
theorem dX6_add_16 : decode cX6_add 16 = .ok (.getfield 9, 3) := by decide +kernel
theorem dX6_add_19 : decode cX6_add 19 = .ok (.iload_n 1, 1) := by decide +kernel
theorem dX6_add_20 : decode cX6_add 20 = .ok (.iastore, 1) := by decide +kernel
theorem dX6_add_21 : decode cX6_add 21 = .ok (.aload_n 0, 1) := by decide +kernel
theorem dX6_add_22 : decode cX6_add 22 = .ok (.getfield 19, 3) := by decide +kernel
theorem dX6_add_25 : decode cX6_add 25 = .ok (.aload_n 0, 1) := by decide +kernel
theorem dX6_add_26 : decode cX6_add 26 = .ok (.getfield 9, 3) := by decide +kernel
theorem dX6_add_29 : decode cX6_add 29 = .ok (.iload_n 2, 1) := by decide +kernel
theorem dX6_add_30 : decode cX6_add 30 = .ok (.iastore, 1) := by decide +kernel
theorem dX6_add_31 : decode cX6_add 31 = .ok (.aload_n 0, 1) := by decide +kernel
theorem dX6_add_32 : decode cX6_add 32 = .ok (.getfield 22, 3) := by decide +kernel
theorem dX6_add_35 : decode cX6_add 35 = .ok (.aload_n 0, 1) := by decide +kernel
theorem dX6_add_36 : decode cX6_add 36 = .ok (.getfield 9, 3) := by decide +kernel
theorem dX6_add_39 : decode cX6_add 39 = .ok (.iload_n 3, 1) := by decide +kernel
theorem dX6_add_40 : decode cX6_add 40 = .ok (.iastore, 1) := by decide +kernel
theorem dX6_add_41 : decode cX6_add 41 = .ok (.aload_n 0, 1) := by decide +kernel
theorem dX6_add_42 : decode cX6_add 42 = .ok (.getfield 25, 3) := by decide +kernel
theorem dX6_add_45 : decode cX6_add 45 = .ok (.aload_n 0, 1) := by decide +kernel
theorem dX6_add_46 : decode cX6_add 46 = .ok (.getfield 9, 3) := by decide +kernel
theorem dX6_add_49 : decode cX6_add 49 = .ok (.iload 4, 2) := by decide +kernel
theorem dX6_add_51 : decode cX6_add 51 = .ok (.bastore, 1) := by decide +kernel
theorem dX6_add_52 : decode cX6_add 52 = .ok (.aload_n 0, 1) := by decide +kernel
theorem dX6_add_53 : decode cX6_add 53 = .ok (.dup, 1) := by decide +kernel
theorem dX6_add_54 : decode cX6_add 54 = .ok (.getfield 9, 3) := by decide +kernel
theorem dX6_add_57 : decode cX6_add 57 = .ok (.iconst 1, 1) := by decide +kernel
theorem dX6_add_58 : decode cX6_add 58 = .ok (.iadd, 1) := by decide +kernel
theorem dX6_add_59 : decode cX6_add 59 = .ok (.putfield 9, 3) := by decide +kernel
theorem dX6_add_62 : decode cX6_add 62 = .ok (.iconst 1, 1) := by decide +kernel
theorem dX6_add_63 : decode cX6_add 63 = .ok (.ireturn, 1) := by decide +kernel
set_option maxRecDepth 20000 in
theorem ggX6_agree_X7_walk : GoodIn wsX6_agree wsX7_walk := goodIn_r _ [11, 12, 13, 14, 15, 10, 16, 17, 18, 19, 20, 21, 22, 23, 24, 25, 26, 27, 28, 29, 36, 37, 38, 39, 40, 41, 42, 43, 44] (by decide +kernel) (by decide +kernel)
set_option maxRecDepth 20000 in
theorem gX6_agree_X7_walk : GoodIn wsX6_agree (wsV RX6 32 RX7 yX7_walk wsX7_walk) := goodIn_app (goodIn_of _ (by decide +kernel)) ggX6_agree_X7_walk
theorem dX6_agree_0 : decode cX6_agree 0 = .ok (.aload_n 1, 1) := by decide +kernel
theorem dX6_agree_1 : decode cX6_agree 1 = .ok (.iload_n 3, 1) := by decide +kernel
theorem dX6_agree_2 : decode cX6_agree 2 = .ok (.iload 4, 2) := by decide +kernel
theorem dX6_agree_4 : decode cX6_agree 4 = .ok (.aload_n 0, 1) := by decide +kernel
theorem dX6_agree_5 : decode cX6_agree 5 = .ok (.getfield 29, 3) := by decide +kernel
theorem dX6_agree_8 : decode cX6_agree 8 = .ok (.invokevirtual 32, 3) := by decide +kernel
theorem dX6_agree_11 : decode cX6_agree 11 = .ok (.iconst 0, 1) := by decide +kernel
theorem dX6_agree_12 : decode cX6_agree 12 = .ok (.istore 5, 2) := by decide +kernel
theorem dX6_agree_14 : decode cX6_agree 14 = .ok (.iload 5, 2) := by decide +kernel
theorem dX6_agree_16 : decode cX6_agree 16 = .ok (.aload_n 0, 1) := by decide +kernel
theorem dX6_agree_17 : decode cX6_agree 17 = .ok (.getfield 9, 3) := by decide +kernel
theorem dX6_agree_20 : decode cX6_agree 20 = .ok (.if_icmp .ge 59, 3) := by decide +kernel
theorem dX6_agree_23 : decode cX6_agree 23 = .ok (.aload_n 0, 1) := by decide +kernel
theorem dX6_agree_24 : decode cX6_agree 24 = .ok (.getfield 15, 3) := by decide +kernel
theorem dX6_agree_27 : decode cX6_agree 27 = .ok (.iload 5, 2) := by decide +kernel
theorem dX6_agree_29 : decode cX6_agree 29 = .ok (.iaload, 1) := by decide +kernel
theorem dX6_agree_30 : decode cX6_agree 30 = .ok (.iload_n 2, 1) := by decide +kernel
theorem dX6_agree_31 : decode cX6_agree 31 = .ok (.if_icmp .ne 42, 3) := by decide +kernel
theorem dX6_agree_34 : decode cX6_agree 34 = .ok (.aload_n 0, 1) := by decide +kernel
theorem dX6_agree_35 : decode cX6_agree 35 = .ok (.getfield 29, 3) := by decide +kernel
theorem dX6_agree_38 : decode cX6_agree 38 = .ok (.aload_n 0, 1) := by decide +kernel
theorem dX6_agree_39 : decode cX6_agree 39 = .ok (.getfield 22, 3) := by decide +kernel
theorem dX6_agree_42 : decode cX6_agree 42 = .ok (.iload 5, 2) := by decide +kernel
theorem dX6_agree_44 : decode cX6_agree 44 = .ok (.iaload, 1) := by decide +kernel
theorem dX6_agree_45 : decode cX6_agree 45 = .ok (.iaload, 1) := by decide +kernel
theorem dX6_agree_46 : decode cX6_agree 46 = .ok (.aload_n 0, 1) := by decide +kernel
theorem dX6_agree_47 : decode cX6_agree 47 = .ok (.getfield 19, 3) := by decide +kernel
theorem dX6_agree_50 : decode cX6_agree 50 = .ok (.iload 5, 2) := by decide +kernel
theorem dX6_agree_52 : decode cX6_agree 52 = .ok (.iaload, 1) := by decide +kernel
theorem dX6_agree_53 : decode cX6_agree 53 = .ok (.if_icmp .ne 7, 3) := by decide +kernel
theorem dX6_agree_56 : decode cX6_agree 56 = .ok (.iconst 1, 1) := by decide +kernel
theorem dX6_agree_57 : decode cX6_agree 57 = .ok (.goto 4, 3) := by decide +kernel
theorem dX6_agree_60 : decode cX6_agree 60 = .ok (.iconst 0, 1) := by decide +kernel
theorem dX6_agree_61 : decode cX6_agree 61 = .ok (.aload_n 0, 1) := by decide +kernel
theorem dX6_agree_62 : decode cX6_agree 62 = .ok (.getfield 25, 3) := by decide +kernel
theorem dX6_agree_65 : decode cX6_agree 65 = .ok (.iload 5, 2) := by decide +kernel
theorem dX6_agree_67 : decode cX6_agree 67 = .ok (.baload, 1) := by decide +kernel
theorem dX6_agree_68 : decode cX6_agree 68 = .ok (.if_icmp .eq 5, 3) := by decide +kernel
theorem dX6_agree_71 : decode cX6_agree 71 = .ok (.iconst 0, 1) := by decide +kernel
theorem dX6_agree_72 : decode cX6_agree 72 = .ok (.ireturn, 1) := by decide +kernel
theorem dX6_agree_73 : decode cX6_agree 73 = .ok (.iinc 5 1, 3) := by decide +kernel
theorem dX6_agree_76 : decode cX6_agree 76 = .ok (.goto (-62), 3) := by decide +kernel
theorem dX6_agree_79 : decode cX6_agree 79 = .ok (.iconst 1, 1) := by decide +kernel
theorem dX6_agree_80 : decode cX6_agree 80 = .ok (.ireturn, 1) := by decide +kernel
set_option maxRecDepth 20000 in
theorem ggX7_init_X2_init : GoodIn wsX7_init wsX2_init := goodIn_r _ [18, 19, 2, 3, 5, 20, 21, 22, 23, 24, 34, 35, 36, 37, 38] (by decide +kernel) (by decide +kernel)
set_option maxRecDepth 20000 in
theorem gX7_init_X2_init_n39 : GoodIn wsX7_init (wsX2_init) := ggX7_init_X2_init
theorem dX7_init_0 : decode cX7_init 0 = .ok (.aload_n 0, 1) := by decide +kernel
theorem dX7_init_1 : decode cX7_init 1 = .ok (.invokespecial 3, 3) := by decide +kernel
theorem dX7_init_4 : decode cX7_init 4 = .ok (.aload_n 0, 1) := by decide +kernel
theorem dX7_init_5 : decode cX7_init 5 = .ok (.iconst 0, 1) := by decide +kernel
theorem dX7_init_6 : decode cX7_init 6 = .ok (.putfield 9, 3) := by decide +kernel
theorem dX7_init_9 : decode cX7_init 9 = .ok (.aload_n 0, 1) := by decide +kernel
theorem dX7_init_10 : decode cX7_init 10 = .ok (.bipush 9, 2) := by decide +kernel
theorem dX7_init_12 : decode cX7_init 12 = .ok (.newarray .int, 2) := by decide +kernel
theorem dX7_init_14 : decode cX7_init 14 = .ok (.putfield 15, 3) := by decide +kernel
theorem dX7_init_17 : decode cX7_init 17 = .ok (.aload_n 0, 1) := by decide +kernel
theorem dX7_init_18 : decode cX7_init 18 = .ok (.bipush 9, 2) := by decide +kernel
theorem dX7_init_20 : decode cX7_init 20 = .ok (.newarray .int, 2) := by decide +kernel
theorem dX7_init_22 : decode cX7_init 22 = .ok (.putfield 19, 3) := by decide +kernel
theorem dX7_init_25 : decode cX7_init 25 = .ok (.aload_n 0, 1) := by decide +kernel
theorem dX7_init_26 : decode cX7_init 26 = .ok (.iconst 0, 1) := by decide +kernel
theorem dX7_init_27 : decode cX7_init 27 = .ok (.putfield 22, 3) := by decide +kernel
theorem dX7_init_30 : decode cX7_init 30 = .ok (.aload_n 0, 1) := by decide +kernel
theorem dX7_init_31 : decode cX7_init 31 = .ok (.iconst 5, 1) := by decide +kernel
theorem dX7_init_32 : decode cX7_init 32 = .ok (.newarray .int, 2) := by decide +kernel
theorem dX7_init_34 : decode cX7_init 34 = .ok (.putfield 25, 3) := by decide +kernel
theorem dX7_init_37 : decode cX7_init 37 = .ok (.aload_n 0, 1) := by decide +kernel
theorem dX7_init_38 : decode cX7_init 38 = .ok (.iconst 5, 1) := by decide +kernel
theorem dX7_init_39 : decode cX7_init 39 = .ok (.newarray .int, 2) := by decide +kernel
theorem dX7_init_41 : decode cX7_init 41 = .ok (.putfield 28, 3) := by decide +kernel
theorem dX7_init_44 : decode cX7_init 44 = .ok (.aload_n 0, 1) := by decide +kernel
theorem dX7_init_45 : decode cX7_init 45 = .ok (.iconst 0, 1) := by decide +kernel
theorem dX7_init_46 : decode cX7_init 46 = .ok (.putfield 31, 3) := by decide +kernel
theorem dX7_init_49 : decode cX7_init 49 = .ok (.aload_n 0, 1) := by decide +kernel
theorem dX7_init_50 : decode cX7_init 50 = .ok (.iconst 1, 1) := by decide +kernel
theorem dX7_init_51 : decode cX7_init 51 = .ok (.putfield 34, 3) := by decide +kernel
theorem dX7_init_54 : decode cX7_init 54 = .ok (.aload_n 0, 1) := by decide +kernel
theorem dX7_init_55 : decode cX7_init 55 = .ok (.new 37, 3) := by decide +kernel
theorem dX7_init_58 : decode cX7_init 58 = .ok (.dup, 1) := by decide +kernel
theorem dX7_init_59 : decode cX7_init 59 = .ok (.invokespecial 39, 3) := by decide +kernel
theorem dX7_init_62 : decode cX7_init 62 = .ok (.putfield 40, 3) := by decide +kernel
theorem dX7_init_65 : decode cX7_init 65 = .ok (.return_, 1) := by decide +kernel
theorem dX7_empty_0 : decode cX7_empty 0 = .ok (.aload_n 0, 1) := by decide +kernel
theorem dX7_empty_1 : decode cX7_empty 1 = .ok (.iconst 0, 1) := by decide +kernel
theorem dX7_empty_2 : decode cX7_empty 2 = .ok (.putfield 9, 3) := by decide +kernel
theorem dX7_empty_5 : decode cX7_empty 5 = .ok (.aload_n 0, 1) := by decide +kernel
theorem dX7_empty_6 : decode cX7_empty 6 = .ok (.iconst 0, 1) := by decide +kernel
theorem dX7_empty_7 : decode cX7_empty 7 = .ok (.putfield 22, 3) := by decide +kernel
theorem dX7_empty_10 : decode cX7_empty 10 = .ok (.aload_n 0, 1) := by decide +kernel
theorem dX7_empty_11 : decode cX7_empty 11 = .ok (.getfield 40, 3) := by decide +kernel
theorem dX7_empty_14 : decode cX7_empty 14 = .ok (.iconst 0, 1) := by decide +kernel
theorem dX7_empty_15 : decode cX7_empty 15 = .ok (.putfield 44, 3) := by decide +kernel
theorem dX7_empty_18 : decode cX7_empty 18 = .ok (.aload_n 0, 1) := by decide +kernel
theorem dX7_empty_19 : decode cX7_empty 19 = .ok (.iconst 0, 1) := by decide +kernel
theorem dX7_empty_20 : decode cX7_empty 20 = .ok (.putfield 31, 3) := by decide +kernel
theorem dX7_empty_23 : decode cX7_empty 23 = .ok (.aload_n 0, 1) := by decide +kernel
theorem dX7_empty_24 : decode cX7_empty 24 = .ok (.iconst 1, 1) := by decide +kernel
theorem dX7_empty_25 : decode cX7_empty 25 = .ok (.putfield 34, 3) := by decide +kernel
theorem dX7_empty_28 : decode cX7_empty 28 = .ok (.return_, 1) := by decide +kernel
set_option maxRecDepth 20000 in
theorem ggX7_accept_X7_addPlace : GoodIn wsX7_accept wsX7_addPlace := goodIn_r _ [6, 7, 8, 9, 44, 45, 46, 47, 48, 49, 50, 51, 52] (by decide +kernel) (by decide +kernel)
set_option maxRecDepth 20000 in
theorem gX7_accept_X7_addPlace : GoodIn wsX7_accept (wsV RX7 47 RX7 yX7_addPlace wsX7_addPlace) := goodIn_app (goodIn_of _ (by decide +kernel)) ggX7_accept_X7_addPlace
set_option maxRecDepth 20000 in
theorem ggX7_accept_X7_addSkin : GoodIn wsX7_accept wsX7_addSkin := goodIn_r _ [13, 14, 1, 15, 16, 17, 44, 45, 46, 47, 48, 49, 50, 51, 52, 53, 54, 55, 56, 57] (by decide +kernel) (by decide +kernel)
set_option maxRecDepth 20000 in
theorem gX7_accept_X7_addSkin : GoodIn wsX7_accept (wsV RX7 51 RX7 yX7_addSkin wsX7_addSkin) := goodIn_app (goodIn_of _ (by decide +kernel)) ggX7_accept_X7_addSkin
set_option maxRecDepth 20000 in
theorem ggX7_accept_X7_hasSkin : GoodIn wsX7_accept wsX7_hasSkin := goodIn_r _ [21, 14, 44, 45, 46, 47, 48, 49, 50, 51, 52] (by decide +kernel) (by decide +kernel)
set_option maxRecDepth 20000 in
theorem gX7_accept_X7_hasSkin : GoodIn wsX7_accept (wsV RX7 55 RX7 yX7_hasSkin wsX7_hasSkin) := goodIn_app (goodIn_of _ (by decide +kernel)) ggX7_accept_X7_hasSkin
set_option maxRecDepth 20000 in
theorem ggX7_accept_X8_isDay : GoodIn wsX7_accept wsX8_isDay := goodIn_r _ [24] (by decide +kernel) (by decide +kernel)
set_option maxRecDepth 20000 in
theorem gX7_accept_X8_isDay_n59 : GoodIn wsX7_accept (wsX8_isDay) := ggX7_accept_X8_isDay
set_option maxRecDepth 20000 in
theorem ggX7_accept_X2_addLook : GoodIn wsX7_accept wsX2_addLook := goodIn_r _ [29, 30, 31, 32, 33, 53, 54, 55, 56, 57] (by decide +kernel) (by decide +kernel)
set_option maxRecDepth 20000 in
theorem gX7_accept_X2_addLook : GoodIn wsX7_accept (wsV RX7 62 RX2 yX2_addLook wsX2_addLook) := goodIn_app (goodIn_of _ (by decide +kernel)) ggX7_accept_X2_addLook
set_option maxRecDepth 20000 in
theorem ggX7_accept_X7_setSmoke : GoodIn wsX7_accept wsX7_setSmoke := goodIn_r _ [37, 38, 44, 45, 46, 47, 48, 49, 50, 51, 52] (by decide +kernel) (by decide +kernel)
set_option maxRecDepth 20000 in
theorem gX7_accept_X7_setSmoke : GoodIn wsX7_accept (wsV RX7 65 RX7 yX7_setSmoke wsX7_setSmoke) := goodIn_app (goodIn_of _ (by decide +kernel)) ggX7_accept_X7_setSmoke
set_option maxRecDepth 20000 in
theorem ggX7_accept_X7_setTide : GoodIn wsX7_accept wsX7_setTide := goodIn_r _ [42, 43, 44, 45, 46, 47, 48, 49, 50, 51, 52] (by decide +kernel) (by decide +kernel)
set_option maxRecDepth 20000 in
theorem gX7_accept_X7_setTide : GoodIn wsX7_accept (wsV RX7 68 RX7 yX7_setTide wsX7_setTide) := goodIn_app (goodIn_of _ (by decide +kernel)) ggX7_accept_X7_setTide
theorem dX7_accept_0 : decode cX7_accept 0 = .ok (.iload_n 1, 1) := by decide +kernel
theorem dX7_accept_1 : decode cX7_accept 1 = .ok (.tableswitch 133 108 119 #[79, 133, 133, 133, 63, 133, 133, 70, 127, 133, 133, 121], 63) := by decide +kernel
theorem dX7_accept_64 : decode cX7_accept 64 = .ok (.aload_n 0, 1) := by decide +kernel
theorem dX7_accept_65 : decode cX7_accept 65 = .ok (.iload_n 2, 1) := by decide +kernel
theorem dX7_accept_66 : decode cX7_accept 66 = .ok (.iload_n 3, 1) := by decide +kernel
theorem dX7_accept_67 : decode cX7_accept 67 = .ok (.invokevirtual 47, 3) := by decide +kernel
theorem dX7_accept_70 : decode cX7_accept 70 = .ok (.ireturn, 1) := by decide +kernel
theorem dX7_accept_71 : decode cX7_accept 71 = .ok (.aload_n 0, 1) := by decide +kernel
theorem dX7_accept_72 : decode cX7_accept 72 = .ok (.iload_n 2, 1) := by decide +kernel
theorem dX7_accept_73 : decode cX7_accept 73 = .ok (.iload_n 3, 1) := by decide +kernel
theorem dX7_accept_74 : decode cX7_accept 74 = .ok (.iload 4, 2) := by decide +kernel
theorem dX7_accept_76 : decode cX7_accept 76 = .ok (.invokevirtual 51, 3) := by decide +kernel
theorem dX7_accept_79 : decode cX7_accept 79 = .ok (.ireturn, 1) := by decide +kernel
theorem dX7_accept_80 : decode cX7_accept 80 = .ok (.aload_n 0, 1) := by decide +kernel
theorem dX7_accept_81 : decode cX7_accept 81 = .ok (.iload_n 2, 1) := by decide +kernel
theorem dX7_accept_82 : decode cX7_accept 82 = .ok (.invokevirtual 55, 3) := by decide +kernel
theorem dX7_accept_85 : decode cX7_accept 85 = .ok (.ifCond .eq 35, 3) := by decide +kernel
theorem dX7_accept_88 : decode cX7_accept 88 = .ok (.iload_n 3, 1) := by decide +kernel
theorem dX7_accept_89 : decode cX7_accept 89 = .ok (.bipush 9, 2) := by decide +kernel
theorem dX7_accept_91 : decode cX7_accept 91 = .ok (.if_icmp .ge 29, 3) := by decide +kernel
theorem dX7_accept_94 : decode cX7_accept 94 = .ok (.iload 4, 2) := by decide +kernel
theorem dX7_accept_96 : decode cX7_accept 96 = .ok (.invokestatic 59, 3) := by decide +kernel
theorem dX7_accept_99 : decode cX7_accept 99 = .ok (.ifCond .eq 21, 3) := by decide +kernel
theorem dX7_accept_102 : decode cX7_accept 102 = .ok (.aload_n 0, 1) := by decide +kernel
theorem dX7_accept_103 : decode cX7_accept 103 = .ok (.getfield 40, 3) := by decide +kernel
theorem dX7_accept_106 : decode cX7_accept 106 = .ok (.iload_n 2, 1) := by decide +kernel
theorem dX7_accept_107 : decode cX7_accept 107 = .ok (.iload_n 3, 1) := by decide +kernel
theorem dX7_accept_108 : decode cX7_accept 108 = .ok (.iload 4, 2) := by decide +kernel
theorem dX7_accept_110 : decode cX7_accept 110 = .ok (.invokevirtual 62, 3) := by decide +kernel
theorem dX7_accept_113 : decode cX7_accept 113 = .ok (.ifCond .eq 7, 3) := by decide +kernel
theorem dX7_accept_116 : decode cX7_accept 116 = .ok (.iconst 1, 1) := by decide +kernel
theorem dX7_accept_117 : decode cX7_accept 117 = .ok (.goto 4, 3) := by decide +kernel
theorem dX7_accept_120 : decode cX7_accept 120 = .ok (.iconst 0, 1) := by decide +kernel
theorem dX7_accept_121 : decode cX7_accept 121 = .ok (.ireturn, 1) := by decide +kernel
theorem dX7_accept_122 : decode cX7_accept 122 = .ok (.aload_n 0, 1) := by decide +kernel
theorem dX7_accept_123 : decode cX7_accept 123 = .ok (.iload_n 2, 1) := by decide +kernel
theorem dX7_accept_124 : decode cX7_accept 124 = .ok (.invokevirtual 65, 3) := by decide +kernel
theorem dX7_accept_127 : decode cX7_accept 127 = .ok (.ireturn, 1) := by decide +kernel
theorem dX7_accept_128 : decode cX7_accept 128 = .ok (.aload_n 0, 1) := by decide +kernel
theorem dX7_accept_129 : decode cX7_accept 129 = .ok (.iload_n 2, 1) := by decide +kernel
theorem dX7_accept_130 : decode cX7_accept 130 = .ok (.invokevirtual 68, 3) := by decide +kernel
theorem dX7_accept_133 : decode cX7_accept 133 = .ok (.ireturn, 1) := by decide +kernel
theorem dX7_accept_134 : decode cX7_accept 134 = .ok (.iconst 0, 1) := by decide +kernel
theorem dX7_accept_135 : decode cX7_accept 135 = .ok (.ireturn, 1) := by decide +kernel
theorem dX7_addPlace_0 : decode cX7_addPlace 0 = .ok (.aload_n 0, 1) := by decide +kernel
theorem dX7_addPlace_1 : decode cX7_addPlace 1 = .ok (.getfield 9, 3) := by decide +kernel
theorem dX7_addPlace_4 : decode cX7_addPlace 4 = .ok (.bipush 9, 2) := by decide +kernel
theorem dX7_addPlace_6 : decode cX7_addPlace 6 = .ok (.if_icmp .ge 19, 3) := by decide +kernel
theorem dX7_addPlace_9 : decode cX7_addPlace 9 = .ok (.iload_n 1, 1) := by decide +kernel
theorem dX7_addPlace_10 : decode cX7_addPlace 10 = .ok (.iconst 5, 1) := by decide +kernel
theorem dX7_addPlace_11 : decode cX7_addPlace 11 = .ok (.if_icmp .gt 14, 3) := by decide +kernel
theorem dX7_addPlace_14 : decode cX7_addPlace 14 = .ok (.iload_n 2, 1) := by decide +kernel
theorem dX7_addPlace_15 : decode cX7_addPlace 15 = .ok (.iconst 1, 1) := by decide +kernel
theorem dX7_addPlace_16 : decode cX7_addPlace 16 = .ok (.if_icmp .lt 9, 3) := by decide +kernel
theorem dX7_addPlace_19 : decode cX7_addPlace 19 = .ok (.iload_n 2, 1) := by decide +kernel
theorem dX7_addPlace_20 : decode cX7_addPlace 20 = .ok (.bipush 10, 2) := by decide +kernel
theorem dX7_addPlace_22 : decode cX7_addPlace 22 = .ok (.if_icmp .le 5, 3) := by decide +kernel
theorem dX7_addPlace_25 : decode cX7_addPlace 25 = .ok (.iconst 0, 1) := by decide +kernel
theorem dX7_addPlace_26 : decode cX7_addPlace 26 = .ok (.ireturn, 1) := by decide +kernel
theorem dX7_addPlace_27 : decode cX7_addPlace 27 = .ok (.aload_n 0, 1) := by decide +kernel
theorem dX7_addPlace_28 : decode cX7_addPlace 28 = .ok (.getfield 15, 3) := by decide +kernel
theorem dX7_addPlace_31 : decode cX7_addPlace 31 = .ok (.aload_n 0, 1) := by decide +kernel
theorem dX7_addPlace_32 : decode cX7_addPlace 32 = .ok (.getfield 9, 3) := by decide +kernel
theorem dX7_addPlace_35 : decode cX7_addPlace 35 = .ok (.iload_n 1, 1) := by decide +kernel
theorem dX7_addPlace_36 : decode cX7_addPlace 36 = .ok (.iastore, 1) := by decide +kernel
theorem dX7_addPlace_37 : decode cX7_addPlace 37 = .ok (.aload_n 0, 1) := by decide +kernel
theorem dX7_addPlace_38 : decode cX7_addPlace 38 = .ok (.getfield 19, 3) := by decide +kernel
theorem dX7_addPlace_41 : decode cX7_addPlace 41 = .ok (.aload_n 0, 1) := by decide +kernel
theorem dX7_addPlace_42 : decode cX7_addPlace 42 = .ok (.getfield 9, 3) := by decide +kernel
theorem dX7_addPlace_45 : decode cX7_addPlace 45 = .ok (.iload_n 2, 1) := by decide +kernel
theorem dX7_addPlace_46 : decode cX7_addPlace 46 = .ok (.iastore, 1) := by decide +kernel
theorem dX7_addPlace_47 : decode cX7_addPlace 47 = .ok (.aload_n 0, 1) := by decide +kernel
theorem dX7_addPlace_48 : decode cX7_addPlace 48 = .ok (.dup, 1) := by decide +kernel
theorem dX7_addPlace_49 : decode cX7_addPlace 49 = .ok (.getfield 9, 3) := by decide +kernel
theorem dX7_addPlace_52 : decode cX7_addPlace 52 = .ok (.iconst 1, 1) := by decide +kernel
theorem dX7_addPlace_53 : decode cX7_addPlace 53 = .ok (.iadd, 1) := by decide +kernel
theorem dX7_addPlace_54 : decode cX7_addPlace 54 = .ok (.putfield 9, 3) := by decide +kernel
theorem dX7_addPlace_57 : decode cX7_addPlace 57 = .ok (.iconst 1, 1) := by decide +kernel
theorem dX7_addPlace_58 : decode cX7_addPlace 58 = .ok (.ireturn, 1) := by decide +kernel
theorem dX7_addSkin_0 : decode cX7_addSkin 0 = .ok (.aload_n 0, 1) := by decide +kernel
theorem dX7_addSkin_1 : decode cX7_addSkin 1 = .ok (.getfield 22, 3) := by decide +kernel
theorem dX7_addSkin_4 : decode cX7_addSkin 4 = .ok (.iconst 5, 1) := by decide +kernel
theorem dX7_addSkin_5 : decode cX7_addSkin 5 = .ok (.if_icmp .ge 25, 3) := by decide +kernel
theorem dX7_addSkin_8 : decode cX7_addSkin 8 = .ok (.iload_n 1, 1) := by decide +kernel
theorem dX7_addSkin_9 : decode cX7_addSkin 9 = .ok (.bipush 9, 2) := by decide +kernel
theorem dX7_addSkin_11 : decode cX7_addSkin 11 = .ok (.if_icmp .ge 19, 3) := by decide +kernel
theorem dX7_addSkin_14 : decode cX7_addSkin 14 = .ok (.iload_n 2, 1) := by decide +kernel
theorem dX7_addSkin_15 : decode cX7_addSkin 15 = .ok (.iconst 1, 1) := by decide +kernel
theorem dX7_addSkin_16 : decode cX7_addSkin 16 = .ok (.if_icmp .lt 14, 3) := by decide +kernel
theorem dX7_addSkin_19 : decode cX7_addSkin 19 = .ok (.iload_n 2, 1) := by decide +kernel
theorem dX7_addSkin_20 : decode cX7_addSkin 20 = .ok (.bipush 20, 2) := by decide +kernel
theorem dX7_addSkin_22 : decode cX7_addSkin 22 = .ok (.if_icmp .gt 8, 3) := by decide +kernel
theorem dX7_addSkin_25 : decode cX7_addSkin 25 = .ok (.iload_n 3, 1) := by decide +kernel
theorem dX7_addSkin_26 : decode cX7_addSkin 26 = .ok (.iconst 4, 1) := by decide +kernel
theorem dX7_addSkin_27 : decode cX7_addSkin 27 = .ok (.if_icmp .lt 5, 3) := by decide +kernel
theorem dX7_addSkin_30 : decode cX7_addSkin 30 = .ok (.iconst 0, 1) := by decide +kernel
theorem dX7_addSkin_31 : decode cX7_addSkin 31 = .ok (.ireturn, 1) := by decide +kernel
theorem dX7_addSkin_32 : decode cX7_addSkin 32 = .ok (.aload_n 0, 1) := by decide +kernel
theorem dX7_addSkin_33 : decode cX7_addSkin 33 = .ok (.getfield 40, 3) := by decide +kernel
theorem dX7_addSkin_36 : decode cX7_addSkin 36 = .ok (.getfield 71, 3) := by decide +kernel
theorem dX7_addSkin_39 : decode cX7_addSkin 39 = .ok (.aload_n 0, 1) := by decide +kernel
theorem dX7_addSkin_40 : decode cX7_addSkin 40 = .ok (.getfield 22, 3) := by decide +kernel
theorem dX7_addSkin_43 : decode cX7_addSkin 43 = .ok (.iload_n 1, 1) := by decide +kernel
theorem dX7_addSkin_44 : decode cX7_addSkin 44 = .ok (.iastore, 1) := by decide +kernel
theorem dX7_addSkin_45 : decode cX7_addSkin 45 = .ok (.aload_n 0, 1) := by decide +kernel
theorem dX7_addSkin_46 : decode cX7_addSkin 46 = .ok (.getfield 25, 3) := by decide +kernel
theorem dX7_addSkin_49 : decode cX7_addSkin 49 = .ok (.aload_n 0, 1) := by decide +kernel
theorem dX7_addSkin_50 : decode cX7_addSkin 50 = .ok (.getfield 22, 3) := by decide +kernel
theorem dX7_addSkin_53 : decode cX7_addSkin 53 = .ok (.iload_n 2, 1) := by decide +kernel
theorem dX7_addSkin_54 : decode cX7_addSkin 54 = .ok (.iastore, 1) := by decide +kernel
theorem dX7_addSkin_55 : decode cX7_addSkin 55 = .ok (.aload_n 0, 1) := by decide +kernel
theorem dX7_addSkin_56 : decode cX7_addSkin 56 = .ok (.getfield 28, 3) := by decide +kernel
theorem dX7_addSkin_59 : decode cX7_addSkin 59 = .ok (.aload_n 0, 1) := by decide +kernel
theorem dX7_addSkin_60 : decode cX7_addSkin 60 = .ok (.getfield 22, 3) := by decide +kernel
theorem dX7_addSkin_63 : decode cX7_addSkin 63 = .ok (.iload_n 3, 1) := by decide +kernel
theorem dX7_addSkin_64 : decode cX7_addSkin 64 = .ok (.iastore, 1) := by decide +kernel
theorem dX7_addSkin_65 : decode cX7_addSkin 65 = .ok (.aload_n 0, 1) := by decide +kernel
theorem dX7_addSkin_66 : decode cX7_addSkin 66 = .ok (.dup, 1) := by decide +kernel
theorem dX7_addSkin_67 : decode cX7_addSkin 67 = .ok (.getfield 22, 3) := by decide +kernel
theorem dX7_addSkin_70 : decode cX7_addSkin 70 = .ok (.iconst 1, 1) := by decide +kernel
theorem dX7_addSkin_71 : decode cX7_addSkin 71 = .ok (.iadd, 1) := by decide +kernel
theorem dX7_addSkin_72 : decode cX7_addSkin 72 = .ok (.putfield 22, 3) := by decide +kernel
theorem dX7_addSkin_75 : decode cX7_addSkin 75 = .ok (.iconst 1, 1) := by decide +kernel
theorem dX7_addSkin_76 : decode cX7_addSkin 76 = .ok (.ireturn, 1) := by decide +kernel
theorem dX7_setSmoke_0 : decode cX7_setSmoke 0 = .ok (.iload_n 1, 1) := by decide +kernel
theorem dX7_setSmoke_1 : decode cX7_setSmoke 1 = .ok (.bipush 60, 2) := by decide +kernel
theorem dX7_setSmoke_3 : decode cX7_setSmoke 3 = .ok (.if_icmp .le 5, 3) := by decide +kernel
theorem dX7_setSmoke_6 : decode cX7_setSmoke 6 = .ok (.iconst 0, 1) := by decide +kernel
theorem dX7_setSmoke_7 : decode cX7_setSmoke 7 = .ok (.ireturn, 1) := by decide +kernel
theorem dX7_setSmoke_8 : decode cX7_setSmoke 8 = .ok (.aload_n 0, 1) := by decide +kernel
theorem dX7_setSmoke_9 : decode cX7_setSmoke 9 = .ok (.iload_n 1, 1) := by decide +kernel
theorem dX7_setSmoke_10 : decode cX7_setSmoke 10 = .ok (.putfield 31, 3) := by decide +kernel
theorem dX7_setSmoke_13 : decode cX7_setSmoke 13 = .ok (.iconst 1, 1) := by decide +kernel
theorem dX7_setSmoke_14 : decode cX7_setSmoke 14 = .ok (.ireturn, 1) := by decide +kernel
theorem dX7_setTide_0 : decode cX7_setTide 0 = .ok (.iload_n 1, 1) := by decide +kernel
theorem dX7_setTide_1 : decode cX7_setTide 1 = .ok (.iconst 1, 1) := by decide +kernel
theorem dX7_setTide_2 : decode cX7_setTide 2 = .ok (.if_icmp .lt 9, 3) := by decide +kernel
theorem dX7_setTide_5 : decode cX7_setTide 5 = .ok (.iload_n 1, 1) := by decide +kernel
theorem dX7_setTide_6 : decode cX7_setTide 6 = .ok (.bipush 20, 2) := by decide +kernel
theorem dX7_setTide_8 : decode cX7_setTide 8 = .ok (.if_icmp .le 5, 3) := by decide +kernel
theorem dX7_setTide_11 : decode cX7_setTide 11 = .ok (.iconst 0, 1) := by decide +kernel
theorem dX7_setTide_12 : decode cX7_setTide 12 = .ok (.ireturn, 1) := by decide +kernel
theorem dX7_setTide_13 : decode cX7_setTide 13 = .ok (.aload_n 0, 1) := by decide +kernel
theorem dX7_setTide_14 : decode cX7_setTide 14 = .ok (.iload_n 1, 1) := by decide +kernel
theorem dX7_setTide_15 : decode cX7_setTide 15 = .ok (.putfield 34, 3) := by decide +kernel
theorem dX7_setTide_18 : decode cX7_setTide 18 = .ok (.iconst 1, 1) := by decide +kernel
theorem dX7_setTide_19 : decode cX7_setTide 19 = .ok (.ireturn, 1) := by decide +kernel
set_option maxRecDepth 20000 in
theorem ggX7_canBeLaid_X7_hasPlace : GoodIn wsX7_canBeLaid wsX7_hasPlace := goodIn_r _ [11, 6, 12, 13, 14, 15, 16, 17, 18, 19, 20] (by decide +kernel) (by decide +kernel)
set_option maxRecDepth 20000 in
theorem gX7_canBeLaid_X7_hasPlace : GoodIn wsX7_canBeLaid (wsV RX7 74 RX7 yX7_hasPlace wsX7_hasPlace) := goodIn_app (goodIn_of _ (by decide +kernel)) ggX7_canBeLaid_X7_hasPlace
theorem dX7_canBeLaid_0 : decode cX7_canBeLaid 0 = .ok (.iconst 0, 1) := by decide +kernel
theorem dX7_canBeLaid_1 : decode cX7_canBeLaid 1 = .ok (.istore_n 1, 1) := by decide +kernel
theorem dX7_canBeLaid_2 : decode cX7_canBeLaid 2 = .ok (.iload_n 1, 1) := by decide +kernel
theorem dX7_canBeLaid_3 : decode cX7_canBeLaid 3 = .ok (.aload_n 0, 1) := by decide +kernel
theorem dX7_canBeLaid_4 : decode cX7_canBeLaid 4 = .ok (.getfield 22, 3) := by decide +kernel
theorem dX7_canBeLaid_7 : decode cX7_canBeLaid 7 = .ok (.if_icmp .ge 27, 3) := by decide +kernel
theorem dX7_canBeLaid_10 : decode cX7_canBeLaid 10 = .ok (.aload_n 0, 1) := by decide +kernel
theorem dX7_canBeLaid_11 : decode cX7_canBeLaid 11 = .ok (.aload_n 0, 1) := by decide +kernel
theorem dX7_canBeLaid_12 : decode cX7_canBeLaid 12 = .ok (.getfield 40, 3) := by decide +kernel
theorem dX7_canBeLaid_15 : decode cX7_canBeLaid 15 = .ok (.getfield 71, 3) := by decide +kernel
theorem dX7_canBeLaid_18 : decode cX7_canBeLaid 18 = .ok (.iload_n 1, 1) := by decide +kernel
theorem dX7_canBeLaid_19 : decode cX7_canBeLaid 19 = .ok (.iaload, 1) := by decide +kernel
theorem dX7_canBeLaid_20 : decode cX7_canBeLaid 20 = .ok (.invokevirtual 74, 3) := by decide +kernel
theorem dX7_canBeLaid_23 : decode cX7_canBeLaid 23 = .ok (.ifCond .ne 5, 3) := by decide +kernel
theorem dX7_canBeLaid_26 : decode cX7_canBeLaid 26 = .ok (.iconst 0, 1) := by decide +kernel
theorem dX7_canBeLaid_27 : decode cX7_canBeLaid 27 = .ok (.ireturn, 1) := by decide +kernel
theorem dX7_canBeLaid_28 : decode cX7_canBeLaid 28 = .ok (.iinc 1 1, 3) := by decide +kernel
theorem dX7_canBeLaid_31 : decode cX7_canBeLaid 31 = .ok (.goto (-29), 3) := by decide +kernel
theorem dX7_canBeLaid_34 : decode cX7_canBeLaid 34 = .ok (.iconst 0, 1) := by decide +kernel
theorem dX7_canBeLaid_35 : decode cX7_canBeLaid 35 = .ok (.istore_n 1, 1) := by decide +kernel
theorem dX7_canBeLaid_36 : decode cX7_canBeLaid 36 = .ok (.iload_n 1, 1) := by decide +kernel
theorem dX7_canBeLaid_37 : decode cX7_canBeLaid 37 = .ok (.aload_n 0, 1) := by decide +kernel
theorem dX7_canBeLaid_38 : decode cX7_canBeLaid 38 = .ok (.getfield 40, 3) := by decide +kernel
theorem dX7_canBeLaid_41 : decode cX7_canBeLaid 41 = .ok (.getfield 44, 3) := by decide +kernel
theorem dX7_canBeLaid_44 : decode cX7_canBeLaid 44 = .ok (.if_icmp .ge 27, 3) := by decide +kernel
theorem dX7_canBeLaid_47 : decode cX7_canBeLaid 47 = .ok (.aload_n 0, 1) := by decide +kernel
theorem dX7_canBeLaid_48 : decode cX7_canBeLaid 48 = .ok (.aload_n 0, 1) := by decide +kernel
theorem dX7_canBeLaid_49 : decode cX7_canBeLaid 49 = .ok (.getfield 40, 3) := by decide +kernel
theorem dX7_canBeLaid_52 : decode cX7_canBeLaid 52 = .ok (.getfield 77, 3) := by decide +kernel
theorem dX7_canBeLaid_55 : decode cX7_canBeLaid 55 = .ok (.iload_n 1, 1) := by decide +kernel
theorem dX7_canBeLaid_56 : decode cX7_canBeLaid 56 = .ok (.iaload, 1) := by decide +kernel
theorem dX7_canBeLaid_57 : decode cX7_canBeLaid 57 = .ok (.invokevirtual 74, 3) := by decide +kernel
theorem dX7_canBeLaid_60 : decode cX7_canBeLaid 60 = .ok (.ifCond .ne 5, 3) := by decide +kernel
theorem dX7_canBeLaid_63 : decode cX7_canBeLaid 63 = .ok (.iconst 0, 1) := by decide +kernel
theorem dX7_canBeLaid_64 : decode cX7_canBeLaid 64 = .ok (.ireturn, 1) := by decide +kernel
theorem dX7_canBeLaid_65 : decode cX7_canBeLaid 65 = .ok (.iinc 1 1, 3) := by decide +kernel
theorem dX7_canBeLaid_68 : decode cX7_canBeLaid 68 = .ok (.goto (-32), 3) := by decide +kernel
theorem dX7_canBeLaid_71 : decode cX7_canBeLaid 71 = .ok (.aload_n 0, 1) := by decide +kernel
theorem dX7_canBeLaid_72 : decode cX7_canBeLaid 72 = .ok (.getfield 9, 3) := by decide +kernel
theorem dX7_canBeLaid_75 : decode cX7_canBeLaid 75 = .ok (.ifCond .le 14, 3) := by decide +kernel
theorem dX7_canBeLaid_78 : decode cX7_canBeLaid 78 = .ok (.aload_n 0, 1) := by decide +kernel
theorem dX7_canBeLaid_79 : decode cX7_canBeLaid 79 = .ok (.getfield 22, 3) := by decide +kernel
theorem dX7_canBeLaid_82 : decode cX7_canBeLaid 82 = .ok (.ifCond .le 7, 3) := by decide +kernel
theorem dX7_canBeLaid_85 : decode cX7_canBeLaid 85 = .ok (.iconst 1, 1) := by decide +kernel
theorem dX7_canBeLaid_86 : decode cX7_canBeLaid 86 = .ok (.goto 4, 3) := by decide +kernel
theorem dX7_canBeLaid_89 : decode cX7_canBeLaid 89 = .ok (.iconst 0, 1) := by decide +kernel
theorem dX7_canBeLaid_90 : decode cX7_canBeLaid 90 = .ok (.ireturn, 1) := by decide +kernel
theorem dX7_hasPlace_0 : decode cX7_hasPlace 0 = .ok (.iload_n 1, 1) := by decide +kernel
theorem dX7_hasPlace_1 : decode cX7_hasPlace 1 = .ok (.ifCond .lt 15, 3) := by decide +kernel
theorem dX7_hasPlace_4 : decode cX7_hasPlace 4 = .ok (.iload_n 1, 1) := by decide +kernel
theorem dX7_hasPlace_5 : decode cX7_hasPlace 5 = .ok (.aload_n 0, 1) := by decide +kernel
theorem dX7_hasPlace_6 : decode cX7_hasPlace 6 = .ok (.getfield 9, 3) := by decide +kernel
theorem dX7_hasPlace_9 : decode cX7_hasPlace 9 = .ok (.if_icmp .ge 7, 3) := by decide +kernel
theorem dX7_hasPlace_12 : decode cX7_hasPlace 12 = .ok (.iconst 1, 1) := by decide +kernel
theorem dX7_hasPlace_13 : decode cX7_hasPlace 13 = .ok (.goto 4, 3) := by decide +kernel
theorem dX7_hasPlace_16 : decode cX7_hasPlace 16 = .ok (.iconst 0, 1) := by decide +kernel
theorem dX7_hasPlace_17 : decode cX7_hasPlace 17 = .ok (.ireturn, 1) := by decide +kernel
theorem dX7_hasSkin_0 : decode cX7_hasSkin 0 = .ok (.iload_n 1, 1) := by decide +kernel
theorem dX7_hasSkin_1 : decode cX7_hasSkin 1 = .ok (.ifCond .lt 15, 3) := by decide +kernel
theorem dX7_hasSkin_4 : decode cX7_hasSkin 4 = .ok (.iload_n 1, 1) := by decide +kernel
theorem dX7_hasSkin_5 : decode cX7_hasSkin 5 = .ok (.aload_n 0, 1) := by decide +kernel
theorem dX7_hasSkin_6 : decode cX7_hasSkin 6 = .ok (.getfield 22, 3) := by decide +kernel
theorem dX7_hasSkin_9 : decode cX7_hasSkin 9 = .ok (.if_icmp .ge 7, 3) := by decide +kernel
theorem dX7_hasSkin_12 : decode cX7_hasSkin 12 = .ok (.iconst 1, 1) := by decide +kernel
theorem dX7_hasSkin_13 : decode cX7_hasSkin 13 = .ok (.goto 4, 3) := by decide +kernel
theorem dX7_hasSkin_16 : decode cX7_hasSkin 16 = .ok (.iconst 0, 1) := by decide +kernel
theorem dX7_hasSkin_17 : decode cX7_hasSkin 17 = .ok (.ireturn, 1) := by decide +kernel
theorem dX7_isIn_0 : decode cX7_isIn 0 = .ok (.iload_n 2, 1) := by decide +kernel
theorem dX7_isIn_1 : decode cX7_isIn 1 = .ok (.iconst (-1), 1) := by decide +kernel
theorem dX7_isIn_2 : decode cX7_isIn 2 = .ok (.if_icmp .eq 13, 3) := by decide +kernel
theorem dX7_isIn_5 : decode cX7_isIn 5 = .ok (.aload_n 0, 1) := by decide +kernel
theorem dX7_isIn_6 : decode cX7_isIn 6 = .ok (.getfield 15, 3) := by decide +kernel
theorem dX7_isIn_9 : decode cX7_isIn 9 = .ok (.iload_n 1, 1) := by decide +kernel
theorem dX7_isIn_10 : decode cX7_isIn 10 = .ok (.iaload, 1) := by decide +kernel
theorem dX7_isIn_11 : decode cX7_isIn 11 = .ok (.iload_n 2, 1) := by decide +kernel
theorem dX7_isIn_12 : decode cX7_isIn 12 = .ok (.if_icmp .ne 7, 3) := by decide +kernel
theorem dX7_isIn_15 : decode cX7_isIn 15 = .ok (.iconst 1, 1) := by decide +kernel
theorem dX7_isIn_16 : decode cX7_isIn 16 = .ok (.goto 4, 3) := by decide +kernel
theorem dX7_isIn_19 : decode cX7_isIn 19 = .ok (.iconst 0, 1) := by decide +kernel
theorem dX7_isIn_20 : decode cX7_isIn 20 = .ok (.ireturn, 1) := by decide +kernel
theorem dX7_partsOf_0 : decode cX7_partsOf 0 = .ok (.aload_n 0, 1) := by decide +kernel
theorem dX7_partsOf_1 : decode cX7_partsOf 1 = .ok (.getfield 19, 3) := by decide +kernel
theorem dX7_partsOf_4 : decode cX7_partsOf 4 = .ok (.iload_n 1, 1) := by decide +kernel
theorem dX7_partsOf_5 : decode cX7_partsOf 5 = .ok (.iaload, 1) := by decide +kernel
theorem dX7_partsOf_6 : decode cX7_partsOf 6 = .ok (.iconst 1, 1) := by decide +kernel
theorem dX7_partsOf_7 : decode cX7_partsOf 7 = .ok (.if_icmp .ge 7, 3) := by decide +kernel
theorem dX7_partsOf_10 : decode cX7_partsOf 10 = .ok (.iconst 0, 1) := by decide +kernel
theorem dX7_partsOf_11 : decode cX7_partsOf 11 = .ok (.goto 13, 3) := by decide +kernel
theorem dX7_partsOf_14 : decode cX7_partsOf 14 = .ok (.sipush 2520, 3) := by decide +kernel
theorem dX7_partsOf_17 : decode cX7_partsOf 17 = .ok (.aload_n 0, 1) := by decide +kernel
theorem dX7_partsOf_18 : decode cX7_partsOf 18 = .ok (.getfield 19, 3) := by decide +kernel
theorem dX7_partsOf_21 : decode cX7_partsOf 21 = .ok (.iload_n 1, 1) := by decide +kernel
theorem dX7_partsOf_22 : decode cX7_partsOf 22 = .ok (.iaload, 1) := by decide +kernel
theorem dX7_partsOf_23 : decode cX7_partsOf 23 = .ok (.idiv, 1) := by decide +kernel
theorem dX7_partsOf_24 : decode cX7_partsOf 24 = .ok (.ireturn, 1) := by decide +kernel
theorem dX7_girthOn_0 : decode cX7_girthOn 0 = .ok (.aload_n 0, 1) := by decide +kernel
theorem dX7_girthOn_1 : decode cX7_girthOn 1 = .ok (.getfield 31, 3) := by decide +kernel
theorem dX7_girthOn_4 : decode cX7_girthOn 4 = .ok (.iconst 1, 1) := by decide +kernel
theorem dX7_girthOn_5 : decode cX7_girthOn 5 = .ok (.if_icmp .ge 12, 3) := by decide +kernel
theorem dX7_girthOn_8 : decode cX7_girthOn 8 = .ok (.aload_n 0, 1) := by decide +kernel
theorem dX7_girthOn_9 : decode cX7_girthOn 9 = .ok (.getfield 25, 3) := by decide +kernel
theorem dX7_girthOn_12 : decode cX7_girthOn 12 = .ok (.iload_n 1, 1) := by decide +kernel
theorem dX7_girthOn_13 : decode cX7_girthOn 13 = .ok (.iaload, 1) := by decide +kernel
theorem dX7_girthOn_14 : decode cX7_girthOn 14 = .ok (.goto 16, 3) := by decide +kernel
theorem dX7_girthOn_17 : decode cX7_girthOn 17 = .ok (.aload_n 0, 1) := by decide +kernel
theorem dX7_girthOn_18 : decode cX7_girthOn 18 = .ok (.getfield 25, 3) := by decide +kernel
theorem dX7_girthOn_21 : decode cX7_girthOn 21 = .ok (.iload_n 1, 1) := by decide +kernel
theorem dX7_girthOn_22 : decode cX7_girthOn 22 = .ok (.iaload, 1) := by decide +kernel
theorem dX7_girthOn_23 : decode cX7_girthOn 23 = .ok (.iload_n 2, 1) := by decide +kernel
theorem dX7_girthOn_24 : decode cX7_girthOn 24 = .ok (.aload_n 0, 1) := by decide +kernel
theorem dX7_girthOn_25 : decode cX7_girthOn 25 = .ok (.getfield 31, 3) := by decide +kernel
theorem dX7_girthOn_28 : decode cX7_girthOn 28 = .ok (.idiv, 1) := by decide +kernel
theorem dX7_girthOn_29 : decode cX7_girthOn 29 = .ok (.isub, 1) := by decide +kernel
theorem dX7_girthOn_30 : decode cX7_girthOn 30 = .ok (.istore_n 3, 1) := by decide +kernel
theorem dX7_girthOn_31 : decode cX7_girthOn 31 = .ok (.iload_n 3, 1) := by decide +kernel
theorem dX7_girthOn_32 : decode cX7_girthOn 32 = .ok (.iconst 1, 1) := by decide +kernel
theorem dX7_girthOn_33 : decode cX7_girthOn 33 = .ok (.if_icmp .ge 7, 3) := by decide +kernel
theorem dX7_girthOn_36 : decode cX7_girthOn 36 = .ok (.iconst 1, 1) := by decide +kernel
theorem dX7_girthOn_37 : decode cX7_girthOn 37 = .ok (.goto 4, 3) := by decide +kernel
theorem dX7_girthOn_40 : decode cX7_girthOn 40 = .ok (.iload_n 3, 1) := by decide +kernel
theorem dX7_girthOn_41 : decode cX7_girthOn 41 = .ok (.ireturn, 1) := by decide +kernel
set_option maxRecDepth 20000 in
theorem ggX7_suits_X7_girthOn : GoodIn wsX7_suits wsX7_girthOn := goodIn_r _ [10, 11, 1, 12, 13, 14, 15, 16, 17, 18, 19, 20] (by decide +kernel) (by decide +kernel)
set_option maxRecDepth 20000 in
theorem gX7_suits_X7_girthOn : GoodIn wsX7_suits (wsV RX7 80 RX7 yX7_girthOn wsX7_girthOn) := goodIn_app (goodIn_of _ (by decide +kernel)) ggX7_suits_X7_girthOn
theorem dX7_suits_0 : decode cX7_suits 0 = .ok (.aload_n 0, 1) := by decide +kernel
theorem dX7_suits_1 : decode cX7_suits 1 = .ok (.iload_n 2, 1) := by decide +kernel
theorem dX7_suits_2 : decode cX7_suits 2 = .ok (.iload_n 3, 1) := by decide +kernel
theorem dX7_suits_3 : decode cX7_suits 3 = .ok (.invokevirtual 80, 3) := by decide +kernel
theorem dX7_suits_6 : decode cX7_suits 6 = .ok (.aload_n 0, 1) := by decide +kernel
theorem dX7_suits_7 : decode cX7_suits 7 = .ok (.getfield 25, 3) := by decide +kernel
theorem dX7_suits_10 : decode cX7_suits 10 = .ok (.iload_n 1, 1) := by decide +kernel
theorem dX7_suits_11 : decode cX7_suits 11 = .ok (.iaload, 1) := by decide +kernel
theorem dX7_suits_12 : decode cX7_suits 12 = .ok (.isub, 1) := by decide +kernel
theorem dX7_suits_13 : decode cX7_suits 13 = .ok (.invokestatic 84, 3) := by decide +kernel
theorem dX7_suits_16 : decode cX7_suits 16 = .ok (.iconst 2, 1) := by decide +kernel
theorem dX7_suits_17 : decode cX7_suits 17 = .ok (.if_icmp .gt 7, 3) := by decide +kernel
theorem dX7_suits_20 : decode cX7_suits 20 = .ok (.iconst 1, 1) := by decide +kernel
theorem dX7_suits_21 : decode cX7_suits 21 = .ok (.goto 4, 3) := by decide +kernel
theorem dX7_suits_24 : decode cX7_suits 24 = .ok (.iconst 0, 1) := by decide +kernel
theorem dX7_suits_25 : decode cX7_suits 25 = .ok (.ireturn, 1) := by decide +kernel
theorem dX7_tideFrom_0 : decode cX7_tideFrom 0 = .ok (.aload_n 0, 1) := by decide +kernel
theorem dX7_tideFrom_1 : decode cX7_tideFrom 1 = .ok (.getfield 34, 3) := by decide +kernel
theorem dX7_tideFrom_4 : decode cX7_tideFrom 4 = .ok (.iconst 1, 1) := by decide +kernel
theorem dX7_tideFrom_5 : decode cX7_tideFrom 5 = .ok (.if_icmp .ge 7, 3) := by decide +kernel
theorem dX7_tideFrom_8 : decode cX7_tideFrom 8 = .ok (.iconst 0, 1) := by decide +kernel
theorem dX7_tideFrom_9 : decode cX7_tideFrom 9 = .ok (.goto 9, 3) := by decide +kernel
theorem dX7_tideFrom_12 : decode cX7_tideFrom 12 = .ok (.iload_n 1, 1) := by decide +kernel
theorem dX7_tideFrom_13 : decode cX7_tideFrom 13 = .ok (.aload_n 0, 1) := by decide +kernel
theorem dX7_tideFrom_14 : decode cX7_tideFrom 14 = .ok (.getfield 34, 3) := by decide +kernel
theorem dX7_tideFrom_17 : decode cX7_tideFrom 17 = .ok (.irem, 1) := by decide +kernel
theorem dX7_tideFrom_18 : decode cX7_tideFrom 18 = .ok (.istore_n 2, 1) := by decide +kernel
theorem dX7_tideFrom_19 : decode cX7_tideFrom 19 = .ok (.iload_n 2, 1) := by decide +kernel
theorem dX7_tideFrom_20 : decode cX7_tideFrom 20 = .ok (.ifCond .ne 7, 3) := by decide +kernel
theorem dX7_tideFrom_23 : decode cX7_tideFrom 23 = .ok (.iload_n 1, 1) := by decide +kernel
theorem dX7_tideFrom_24 : decode cX7_tideFrom 24 = .ok (.goto 11, 3) := by decide +kernel
theorem dX7_tideFrom_27 : decode cX7_tideFrom 27 = .ok (.iload_n 1, 1) := by decide +kernel
theorem dX7_tideFrom_28 : decode cX7_tideFrom 28 = .ok (.aload_n 0, 1) := by decide +kernel
theorem dX7_tideFrom_29 : decode cX7_tideFrom 29 = .ok (.getfield 34, 3) := by decide +kernel
theorem dX7_tideFrom_32 : decode cX7_tideFrom 32 = .ok (.iadd, 1) := by decide +kernel
theorem dX7_tideFrom_33 : decode cX7_tideFrom 33 = .ok (.iload_n 2, 1) := by decide +kernel
theorem dX7_tideFrom_34 : decode cX7_tideFrom 34 = .ok (.isub, 1) := by decide +kernel
theorem dX7_tideFrom_35 : decode cX7_tideFrom 35 = .ok (.ireturn, 1) := by decide +kernel
set_option maxRecDepth 20000 in
theorem ggX7_walk_X7_afterFro : GoodIn wsX7_walk wsX7_afterFro := goodIn_r _ [6, 1, 20, 21, 22, 23, 24, 25, 26, 27, 28] (by decide +kernel) (by decide +kernel)
set_option maxRecDepth 20000 in
theorem gX7_walk_X7_afterFro : GoodIn wsX7_walk (wsV RX7 90 RX7 yX7_afterFro wsX7_afterFro) := goodIn_app (goodIn_of _ (by decide +kernel)) ggX7_walk_X7_afterFro
set_option maxRecDepth 20000 in
theorem ggX7_walk_X7_afterNight : GoodIn wsX7_walk wsX7_afterNight := goodIn_r _ [10, 11, 12, 13, 5, 14, 1, 15, 16, 17, 18, 19, 20, 21, 22, 23, 24, 25, 26, 27, 28] (by decide +kernel) (by decide +kernel)
set_option maxRecDepth 20000 in
theorem gX7_walk_X7_afterNight : GoodIn wsX7_walk (wsV RX7 94 RX7 yX7_afterNight wsX7_afterNight) := goodIn_app (goodIn_of _ (by decide +kernel)) ggX7_walk_X7_afterNight
theorem dX7_walk_0 : decode cX7_walk 0 = .ok (.iload_n 1, 1) := by decide +kernel
theorem dX7_walk_1 : decode cX7_walk 1 = .ok (.istore 4, 2) := by decide +kernel
theorem dX7_walk_3 : decode cX7_walk 3 = .ok (.iconst 0, 1) := by decide +kernel
theorem dX7_walk_4 : decode cX7_walk 4 = .ok (.istore 5, 2) := by decide +kernel
theorem dX7_walk_6 : decode cX7_walk 6 = .ok (.iconst 1, 1) := by decide +kernel
theorem dX7_walk_7 : decode cX7_walk 7 = .ok (.istore 6, 2) := by decide +kernel
theorem dX7_walk_9 : decode cX7_walk 9 = .ok (.iload 6, 2) := by decide +kernel
theorem dX7_walk_11 : decode cX7_walk 11 = .ok (.bipush 60, 2) := by decide +kernel
theorem dX7_walk_13 : decode cX7_walk 13 = .ok (.if_icmp .gt 77, 3) := by decide +kernel
theorem dX7_walk_16 : decode cX7_walk 16 = .ok (.iload 6, 2) := by decide +kernel
theorem dX7_walk_18 : decode cX7_walk 18 = .ok (.aload_n 3, 1) := by decide +kernel
theorem dX7_walk_19 : decode cX7_walk 19 = .ok (.arraylength, 1) := by decide +kernel
theorem dX7_walk_20 : decode cX7_walk 20 = .ok (.if_icmp .ge 70, 3) := by decide +kernel
theorem dX7_walk_23 : decode cX7_walk 23 = .ok (.aload_n 3, 1) := by decide +kernel
theorem dX7_walk_24 : decode cX7_walk 24 = .ok (.iload 6, 2) := by decide +kernel
theorem dX7_walk_26 : decode cX7_walk 26 = .ok (.iload 4, 2) := by decide +kernel
theorem dX7_walk_28 : decode cX7_walk 28 = .ok (.iastore, 1) := by decide +kernel
theorem dX7_walk_29 : decode cX7_walk 29 = .ok (.iload_n 2, 1) := by decide +kernel
theorem dX7_walk_30 : decode cX7_walk 30 = .ok (.iconst 2, 1) := by decide +kernel
theorem dX7_walk_31 : decode cX7_walk 31 = .ok (.if_icmp .ne 44, 3) := by decide +kernel
theorem dX7_walk_34 : decode cX7_walk 34 = .ok (.iload 4, 2) := by decide +kernel
theorem dX7_walk_36 : decode cX7_walk 36 = .ok (.ifCond .le 23, 3) := by decide +kernel
theorem dX7_walk_39 : decode cX7_walk 39 = .ok (.iload 5, 2) := by decide +kernel
theorem dX7_walk_41 : decode cX7_walk 41 = .ok (.ifCond .ne 14, 3) := by decide +kernel
theorem dX7_walk_44 : decode cX7_walk 44 = .ok (.iload 4, 2) := by decide +kernel
theorem dX7_walk_46 : decode cX7_walk 46 = .ok (.aload_n 0, 1) := by decide +kernel
theorem dX7_walk_47 : decode cX7_walk 47 = .ok (.getfield 9, 3) := by decide +kernel
theorem dX7_walk_50 : decode cX7_walk 50 = .ok (.iconst 1, 1) := by decide +kernel
theorem dX7_walk_51 : decode cX7_walk 51 = .ok (.isub, 1) := by decide +kernel
theorem dX7_walk_52 : decode cX7_walk 52 = .ok (.if_icmp .lt 7, 3) := by decide +kernel
theorem dX7_walk_55 : decode cX7_walk 55 = .ok (.iconst 1, 1) := by decide +kernel
theorem dX7_walk_56 : decode cX7_walk 56 = .ok (.goto 4, 3) := by decide +kernel
theorem dX7_walk_59 : decode cX7_walk 59 = .ok (.iconst 0, 1) := by decide +kernel
theorem dX7_walk_60 : decode cX7_walk 60 = .ok (.istore 5, 2) := by decide +kernel
theorem dX7_walk_62 : decode cX7_walk 62 = .ok (.aload_n 0, 1) := by decide +kernel
theorem dX7_walk_63 : decode cX7_walk 63 = .ok (.iload 4, 2) := by decide +kernel
theorem dX7_walk_65 : decode cX7_walk 65 = .ok (.iload 5, 2) := by decide +kernel
theorem dX7_walk_67 : decode cX7_walk 67 = .ok (.invokevirtual 90, 3) := by decide +kernel
theorem dX7_walk_70 : decode cX7_walk 70 = .ok (.istore 4, 2) := by decide +kernel
theorem dX7_walk_72 : decode cX7_walk 72 = .ok (.goto 12, 3) := by decide +kernel
theorem dX7_walk_75 : decode cX7_walk 75 = .ok (.aload_n 0, 1) := by decide +kernel
theorem dX7_walk_76 : decode cX7_walk 76 = .ok (.iload 4, 2) := by decide +kernel
theorem dX7_walk_78 : decode cX7_walk 78 = .ok (.iload_n 2, 1) := by decide +kernel
theorem dX7_walk_79 : decode cX7_walk 79 = .ok (.invokevirtual 94, 3) := by decide +kernel
theorem dX7_walk_82 : decode cX7_walk 82 = .ok (.istore 4, 2) := by decide +kernel
theorem dX7_walk_84 : decode cX7_walk 84 = .ok (.iinc 6 1, 3) := by decide +kernel
theorem dX7_walk_87 : decode cX7_walk 87 = .ok (.goto (-78), 3) := by decide +kernel
theorem dX7_walk_90 : decode cX7_walk 90 = .ok (.return_, 1) := by decide +kernel
theorem dX7_afterFro_0 : decode cX7_afterFro 0 = .ok (.aload_n 0, 1) := by decide +kernel
theorem dX7_afterFro_1 : decode cX7_afterFro 1 = .ok (.getfield 9, 3) := by decide +kernel
theorem dX7_afterFro_4 : decode cX7_afterFro 4 = .ok (.iconst 2, 1) := by decide +kernel
theorem dX7_afterFro_5 : decode cX7_afterFro 5 = .ok (.if_icmp .ge 5, 3) := by decide +kernel
theorem dX7_afterFro_8 : decode cX7_afterFro 8 = .ok (.iload_n 1, 1) := by decide +kernel
theorem dX7_afterFro_9 : decode cX7_afterFro 9 = .ok (.ireturn, 1) := by decide +kernel
theorem dX7_afterFro_10 : decode cX7_afterFro 10 = .ok (.iload_n 2, 1) := by decide +kernel
theorem dX7_afterFro_11 : decode cX7_afterFro 11 = .ok (.ifCond .eq 9, 3) := by decide +kernel
theorem dX7_afterFro_14 : decode cX7_afterFro 14 = .ok (.iload_n 1, 1) := by decide +kernel
theorem dX7_afterFro_15 : decode cX7_afterFro 15 = .ok (.iconst 1, 1) := by decide +kernel
theorem dX7_afterFro_16 : decode cX7_afterFro 16 = .ok (.isub, 1) := by decide +kernel
theorem dX7_afterFro_17 : decode cX7_afterFro 17 = .ok (.goto 6, 3) := by decide +kernel
theorem dX7_afterFro_20 : decode cX7_afterFro 20 = .ok (.iload_n 1, 1) := by decide +kernel
theorem dX7_afterFro_21 : decode cX7_afterFro 21 = .ok (.iconst 1, 1) := by decide +kernel
theorem dX7_afterFro_22 : decode cX7_afterFro 22 = .ok (.iadd, 1) := by decide +kernel
theorem dX7_afterFro_23 : decode cX7_afterFro 23 = .ok (.ireturn, 1) := by decide +kernel
set_option maxRecDepth 20000 in
theorem ggX7_afterNight_X7_afterNext : GoodIn wsX7_afterNight wsX7_afterNext := goodIn_r _ [5, 6, 12, 13, 14, 15, 16, 17, 18, 19, 20] (by decide +kernel) (by decide +kernel)
set_option maxRecDepth 20000 in
theorem gX7_afterNight_X7_afterNext : GoodIn wsX7_afterNight (wsV RX7 97 RX7 yX7_afterNext wsX7_afterNext) := goodIn_app (goodIn_of _ (by decide +kernel)) ggX7_afterNight_X7_afterNext
set_option maxRecDepth 20000 in
theorem ggX7_afterNight_X7_lowestBeside : GoodIn wsX7_afterNight wsX7_lowestBeside := goodIn_r _ [10, 11, 12, 13, 14, 15, 16, 17, 18, 19, 20] (by decide +kernel) (by decide +kernel)
set_option maxRecDepth 20000 in
theorem gX7_afterNight_X7_lowestBeside : GoodIn wsX7_afterNight (wsV RX7 100 RX7 yX7_lowestBeside wsX7_lowestBeside) := goodIn_app (goodIn_of _ (by decide +kernel)) ggX7_afterNight_X7_lowestBeside
theorem dX7_afterNight_0 : decode cX7_afterNight 0 = .ok (.iload_n 2, 1) := by decide +kernel
theorem dX7_afterNight_1 : decode cX7_afterNight 1 = .ok (.lookupswitch 56 #[(1, 27), (3, 33)], 27) := by decide +kernel
theorem dX7_afterNight_28 : decode cX7_afterNight 28 = .ok (.aload_n 0, 1) := by decide +kernel
theorem dX7_afterNight_29 : decode cX7_afterNight 29 = .ok (.iload_n 1, 1) := by decide +kernel
theorem dX7_afterNight_30 : decode cX7_afterNight 30 = .ok (.invokevirtual 97, 3) := by decide +kernel
theorem dX7_afterNight_33 : decode cX7_afterNight 33 = .ok (.ireturn, 1) := by decide +kernel
theorem dX7_afterNight_34 : decode cX7_afterNight 34 = .ok (.aload_n 0, 1) := by decide +kernel
theorem dX7_afterNight_35 : decode cX7_afterNight 35 = .ok (.iload_n 1, 1) := by decide +kernel
theorem dX7_afterNight_36 : decode cX7_afterNight 36 = .ok (.invokevirtual 100, 3) := by decide +kernel
theorem dX7_afterNight_39 : decode cX7_afterNight 39 = .ok (.iload_n 1, 1) := by decide +kernel
theorem dX7_afterNight_40 : decode cX7_afterNight 40 = .ok (.if_icmp .ge 11, 3) := by decide +kernel
theorem dX7_afterNight_43 : decode cX7_afterNight 43 = .ok (.aload_n 0, 1) := by decide +kernel
theorem dX7_afterNight_44 : decode cX7_afterNight 44 = .ok (.iload_n 1, 1) := by decide +kernel
theorem dX7_afterNight_45 : decode cX7_afterNight 45 = .ok (.invokevirtual 100, 3) := by decide +kernel
theorem dX7_afterNight_48 : decode cX7_afterNight 48 = .ok (.goto 8, 3) := by decide +kernel
theorem dX7_afterNight_51 : decode cX7_afterNight 51 = .ok (.aload_n 0, 1) := by decide +kernel
theorem dX7_afterNight_52 : decode cX7_afterNight 52 = .ok (.iload_n 1, 1) := by decide +kernel
theorem dX7_afterNight_53 : decode cX7_afterNight 53 = .ok (.invokevirtual 97, 3) := by decide +kernel
theorem dX7_afterNight_56 : decode cX7_afterNight 56 = .ok (.ireturn, 1) := by decide +kernel
theorem dX7_afterNight_57 : decode cX7_afterNight 57 = .ok (.iload_n 1, 1) := by decide +kernel
theorem dX7_afterNight_58 : decode cX7_afterNight 58 = .ok (.ireturn, 1) := by decide +kernel
theorem dX7_afterNext_0 : decode cX7_afterNext 0 = .ok (.iload_n 1, 1) := by decide +kernel
theorem dX7_afterNext_1 : decode cX7_afterNext 1 = .ok (.iconst 1, 1) := by decide +kernel
theorem dX7_afterNext_2 : decode cX7_afterNext 2 = .ok (.iadd, 1) := by decide +kernel
theorem dX7_afterNext_3 : decode cX7_afterNext 3 = .ok (.aload_n 0, 1) := by decide +kernel
theorem dX7_afterNext_4 : decode cX7_afterNext 4 = .ok (.getfield 9, 3) := by decide +kernel
theorem dX7_afterNext_7 : decode cX7_afterNext 7 = .ok (.if_icmp .ge 9, 3) := by decide +kernel
theorem dX7_afterNext_10 : decode cX7_afterNext 10 = .ok (.iload_n 1, 1) := by decide +kernel
theorem dX7_afterNext_11 : decode cX7_afterNext 11 = .ok (.iconst 1, 1) := by decide +kernel
theorem dX7_afterNext_12 : decode cX7_afterNext 12 = .ok (.iadd, 1) := by decide +kernel
theorem dX7_afterNext_13 : decode cX7_afterNext 13 = .ok (.goto 4, 3) := by decide +kernel
theorem dX7_afterNext_16 : decode cX7_afterNext 16 = .ok (.iconst 0, 1) := by decide +kernel
theorem dX7_afterNext_17 : decode cX7_afterNext 17 = .ok (.ireturn, 1) := by decide +kernel
theorem dX7_lowestBeside_0 : decode cX7_lowestBeside 0 = .ok (.iconst 0, 1) := by decide +kernel
theorem dX7_lowestBeside_1 : decode cX7_lowestBeside 1 = .ok (.istore_n 2, 1) := by decide +kernel
theorem dX7_lowestBeside_2 : decode cX7_lowestBeside 2 = .ok (.iload_n 2, 1) := by decide +kernel
theorem dX7_lowestBeside_3 : decode cX7_lowestBeside 3 = .ok (.iload_n 1, 1) := by decide +kernel
theorem dX7_lowestBeside_4 : decode cX7_lowestBeside 4 = .ok (.if_icmp .ge 26, 3) := by decide +kernel
theorem dX7_lowestBeside_7 : decode cX7_lowestBeside 7 = .ok (.aload_n 0, 1) := by decide +kernel
theorem dX7_lowestBeside_8 : decode cX7_lowestBeside 8 = .ok (.getfield 15, 3) := by decide +kernel
theorem dX7_lowestBeside_11 : decode cX7_lowestBeside 11 = .ok (.iload_n 2, 1) := by decide +kernel
theorem dX7_lowestBeside_12 : decode cX7_lowestBeside 12 = .ok (.iaload, 1) := by decide +kernel
theorem dX7_lowestBeside_13 : decode cX7_lowestBeside 13 = .ok (.aload_n 0, 1) := by decide +kernel
theorem dX7_lowestBeside_14 : decode cX7_lowestBeside 14 = .ok (.getfield 15, 3) := by decide +kernel
theorem dX7_lowestBeside_17 : decode cX7_lowestBeside 17 = .ok (.iload_n 1, 1) := by decide +kernel
theorem dX7_lowestBeside_18 : decode cX7_lowestBeside 18 = .ok (.iaload, 1) := by decide +kernel
theorem dX7_lowestBeside_19 : decode cX7_lowestBeside 19 = .ok (.if_icmp .ne 5, 3) := by decide +kernel
theorem dX7_lowestBeside_22 : decode cX7_lowestBeside 22 = .ok (.iload_n 2, 1) := by decide +kernel
theorem dX7_lowestBeside_23 : decode cX7_lowestBeside 23 = .ok (.ireturn, 1) := by decide +kernel
theorem dX7_lowestBeside_24 : decode cX7_lowestBeside 24 = .ok (.iinc 2 1, 3) := by decide +kernel
theorem dX7_lowestBeside_27 : decode cX7_lowestBeside 27 = .ok (.goto (-25), 3) := by decide +kernel
theorem dX7_lowestBeside_30 : decode cX7_lowestBeside 30 = .ok (.iload_n 1, 1) := by decide +kernel
theorem dX7_lowestBeside_31 : decode cX7_lowestBeside 31 = .ok (.ireturn, 1) := by decide +kernel
set_option maxRecDepth 20000 in
theorem ggX8_init_X3_init : GoodIn wsX8_init wsX3_init := goodIn_r _ [38, 39, 2, 3, 40, 41, 42, 18, 43, 288, 289, 290] (by decide +kernel) (by decide +kernel)
set_option maxRecDepth 20000 in
theorem gX8_init_X3_init_n9 : GoodIn wsX8_init (wsX3_init) := ggX8_init_X3_init
set_option maxRecDepth 20000 in
theorem ggX8_init_X7_init : GoodIn wsX8_init wsX7_init := goodIn_r _ [45, 46, 2, 3, 47, 18, 48, 49, 50, 51, 52, 53, 54, 55, 56, 57, 58, 59, 60, 61, 62, 63, 64, 65, 66, 301, 302, 303, 304, 305, 306, 307, 308, 309, 330, 331, 332, 333, 334] (by decide +kernel) (by decide +kernel)
set_option maxRecDepth 20000 in
theorem gX8_init_X7_init_n18 : GoodIn wsX8_init (wsX7_init) := ggX8_init_X7_init
set_option maxRecDepth 20000 in
theorem ggX8_init_X1_init : GoodIn wsX8_init wsX1_init := goodIn_r _ [68, 69, 2, 3, 70, 18, 71, 72, 73, 74, 310, 311, 312, 313] (by decide +kernel) (by decide +kernel)
set_option maxRecDepth 20000 in
theorem gX8_init_X1_init_n28 : GoodIn wsX8_init (wsX1_init) := ggX8_init_X1_init
set_option maxRecDepth 20000 in
theorem ggX8_init_X6_init : GoodIn wsX8_init wsX6_init := goodIn_r _ [76, 77, 2, 3, 78, 18, 79, 80, 81, 82, 83, 84, 314, 315, 316, 317, 318, 319] (by decide +kernel) (by decide +kernel)
set_option maxRecDepth 20000 in
theorem gX8_init_X6_init_n42 : GoodIn wsX8_init (wsX6_init) := ggX8_init_X6_init
set_option maxRecDepth 20000 in
theorem ggX8_init_X4_init : GoodIn wsX8_init wsX4_init := goodIn_r _ [86, 87, 2, 3, 88, 89, 90, 18, 91, 92, 93, 320, 321, 322, 323, 324] (by decide +kernel) (by decide +kernel)
set_option maxRecDepth 20000 in
theorem gX8_init_X4_init_n49 : GoodIn wsX8_init (wsX4_init) := ggX8_init_X4_init
set_option maxRecDepth 20000 in
theorem ggX8_init_X0_init : GoodIn wsX8_init wsX0_init := goodIn_r _ [95, 96, 2, 3, 97, 18, 98, 99, 325, 326, 327] (by decide +kernel) (by decide +kernel)
set_option maxRecDepth 20000 in
theorem gX8_init_X0_init_n56 : GoodIn wsX8_init (wsX0_init) := ggX8_init_X0_init
set_option maxRecDepth 20000 in
theorem ggX8_init_X5_init : GoodIn wsX8_init wsX5_init := goodIn_r _ [101, 102, 2, 3, 103, 104, 56, 57, 105, 59, 60, 61, 18, 62, 63, 64, 65, 66, 328, 329, 330, 331, 332, 333, 334] (by decide +kernel) (by decide +kernel)
set_option maxRecDepth 20000 in
theorem gX8_init_X5_init_n63 : GoodIn wsX8_init (wsX5_init) := ggX8_init_X5_init
set_option maxRecDepth 20000 in
theorem ggX8_init_J0_length_8abf5 : GoodIn wsX8_init wsJ0_length_8abf5 := goodIn_r _ [110, 111, 112, 113, 114, 109, 115, 116, 117] (by decide +kernel) (by decide +kernel)
