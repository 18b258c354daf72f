theorem dX9_seen_93 : decode cX9_seen 93 = .ok (.putfield 155, 3) := by decide +kernel
theorem dX9_seen_96 : decode cX9_seen 96 = .ok (.aload_n 0, 1) := by decide +kernel
theorem dX9_seen_97 : decode cX9_seen 97 = .ok (.getfield 155, 3) := by decide +kernel
theorem dX9_seen_100 : decode cX9_seen 100 = .ok (.ireturn, 1) := by decide +kernel
theorem dX9_forget_0 : decode cX9_forget 0 = .ok (.aload_n 0, 1) := by decide +kernel
theorem dX9_forget_1 : decode cX9_forget 1 = .ok (.getfield 155, 3) := by decide +kernel
theorem dX9_forget_4 : decode cX9_forget 4 = .ok (.istore_n 1, 1) := by decide +kernel
theorem dX9_forget_5 : decode cX9_forget 5 = .ok (.aload_n 0, 1) := by decide +kernel
theorem dX9_forget_6 : decode cX9_forget 6 = .ok (.iconst 0, 1) := by decide +kernel
theorem dX9_forget_7 : decode cX9_forget 7 = .ok (.putfield 155, 3) := by decide +kernel
theorem dX9_forget_10 : decode cX9_forget 10 = .ok (.iload_n 1, 1) := by decide +kernel
theorem dX9_forget_11 : decode cX9_forget 11 = .ok (.ireturn, 1) := by decide +kernel
set_option maxRecDepth 20000 in
theorem ggX9_isSo_X9_placeOn : GoodIn wsX9_isSo wsX9_placeOn := goodIn_r _ [10, 11, 12, 13, 14, 9, 15, 16, 17, 18, 19, 20, 21, 22, 23, 24, 25, 26, 27, 28, 29, 30, 31, 32, 33, 34, 35, 36, 37, 38, 39, 40, 41, 42, 43, 44, 45, 46, 47, 48, 49, 50, 51, 52, 53, 54, 55, 56, 57, 58] (by decide +kernel) (by decide +kernel)
set_option maxRecDepth 20000 in
theorem gX9_isSo_X9_placeOn : GoodIn wsX9_isSo (wsV RX9 179 RX9 yX9_placeOn wsX9_placeOn) := goodIn_app (goodIn_of _ (by decide +kernel)) ggX9_isSo_X9_placeOn
theorem dX9_isSo_0 : decode cX9_isSo 0 = .ok (.iconst 1, 1) := by decide +kernel
theorem dX9_isSo_1 : decode cX9_isSo 1 = .ok (.istore 4, 2) := by decide +kernel
theorem dX9_isSo_3 : decode cX9_isSo 3 = .ok (.iconst 0, 1) := by decide +kernel
theorem dX9_isSo_4 : decode cX9_isSo 4 = .ok (.istore 5, 2) := by decide +kernel
theorem dX9_isSo_6 : decode cX9_isSo 6 = .ok (.iload 5, 2) := by decide +kernel
theorem dX9_isSo_8 : decode cX9_isSo 8 = .ok (.aload_n 0, 1) := by decide +kernel
theorem dX9_isSo_9 : decode cX9_isSo 9 = .ok (.getfield 155, 3) := by decide +kernel
theorem dX9_isSo_12 : decode cX9_isSo 12 = .ok (.if_icmp .ge 83, 3) := by decide +kernel
theorem dX9_isSo_15 : decode cX9_isSo 15 = .ok (.aload_n 0, 1) := by decide +kernel
theorem dX9_isSo_16 : decode cX9_isSo 16 = .ok (.getfield 55, 3) := by decide +kernel
theorem dX9_isSo_19 : decode cX9_isSo 19 = .ok (.iload 5, 2) := by decide +kernel
theorem dX9_isSo_21 : decode cX9_isSo 21 = .ok (.iaload, 1) := by decide +kernel
theorem dX9_isSo_22 : decode cX9_isSo 22 = .ok (.iload_n 1, 1) := by decide +kernel
theorem dX9_isSo_23 : decode cX9_isSo 23 = .ok (.if_icmp .ne 66, 3) := by decide +kernel
theorem dX9_isSo_26 : decode cX9_isSo 26 = .ok (.aload_n 0, 1) := by decide +kernel
theorem dX9_isSo_27 : decode cX9_isSo 27 = .ok (.iload_n 2, 1) := by decide +kernel
theorem dX9_isSo_28 : decode cX9_isSo 28 = .ok (.iload_n 3, 1) := by decide +kernel
theorem dX9_isSo_29 : decode cX9_isSo 29 = .ok (.aload_n 0, 1) := by decide +kernel
theorem dX9_isSo_30 : decode cX9_isSo 30 = .ok (.getfield 61, 3) := by decide +kernel
theorem dX9_isSo_33 : decode cX9_isSo 33 = .ok (.iload 5, 2) := by decide +kernel
theorem dX9_isSo_35 : decode cX9_isSo 35 = .ok (.iaload, 1) := by decide +kernel
theorem dX9_isSo_36 : decode cX9_isSo 36 = .ok (.invokevirtual 179, 3) := by decide +kernel
theorem dX9_isSo_39 : decode cX9_isSo 39 = .ok (.aload_n 0, 1) := by decide +kernel
theorem dX9_isSo_40 : decode cX9_isSo 40 = .ok (.getfield 58, 3) := by decide +kernel
theorem dX9_isSo_43 : decode cX9_isSo 43 = .ok (.iload 5, 2) := by decide +kernel
theorem dX9_isSo_45 : decode cX9_isSo 45 = .ok (.iaload, 1) := by decide +kernel
theorem dX9_isSo_46 : decode cX9_isSo 46 = .ok (.if_icmp .ne 7, 3) := by decide +kernel
theorem dX9_isSo_49 : decode cX9_isSo 49 = .ok (.iconst 1, 1) := by decide +kernel
theorem dX9_isSo_50 : decode cX9_isSo 50 = .ok (.goto 4, 3) := by decide +kernel
theorem dX9_isSo_53 : decode cX9_isSo 53 = .ok (.iconst 0, 1) := by decide +kernel
theorem dX9_isSo_54 : decode cX9_isSo 54 = .ok (.istore 6, 2) := by decide +kernel
theorem dX9_isSo_56 : decode cX9_isSo 56 = .ok (.iload 4, 2) := by decide +kernel
theorem dX9_isSo_58 : decode cX9_isSo 58 = .ok (.ifCond .eq 28, 3) := by decide +kernel
theorem dX9_isSo_61 : decode cX9_isSo 61 = .ok (.iload 6, 2) := by decide +kernel
theorem dX9_isSo_63 : decode cX9_isSo 63 = .ok (.aload_n 0, 1) := by decide +kernel
theorem dX9_isSo_64 : decode cX9_isSo 64 = .ok (.getfield 64, 3) := by decide +kernel
theorem dX9_isSo_67 : decode cX9_isSo 67 = .ok (.iload 5, 2) := by decide +kernel
theorem dX9_isSo_69 : decode cX9_isSo 69 = .ok (.iaload, 1) := by decide +kernel
theorem dX9_isSo_70 : decode cX9_isSo 70 = .ok (.iconst 1, 1) := by decide +kernel
theorem dX9_isSo_71 : decode cX9_isSo 71 = .ok (.if_icmp .ne 7, 3) := by decide +kernel
theorem dX9_isSo_74 : decode cX9_isSo 74 = .ok (.iconst 1, 1) := by decide +kernel
theorem dX9_isSo_75 : decode cX9_isSo 75 = .ok (.goto 4, 3) := by decide +kernel
theorem dX9_isSo_78 : decode cX9_isSo 78 = .ok (.iconst 0, 1) := by decide +kernel
theorem dX9_isSo_79 : decode cX9_isSo 79 = .ok (.if_icmp .ne 7, 3) := by decide +kernel
theorem dX9_isSo_82 : decode cX9_isSo 82 = .ok (.iconst 1, 1) := by decide +kernel
theorem dX9_isSo_83 : decode cX9_isSo 83 = .ok (.goto 4, 3) := by decide +kernel
theorem dX9_isSo_86 : decode cX9_isSo 86 = .ok (.iconst 0, 1) := by decide +kernel
theorem dX9_isSo_87 : decode cX9_isSo 87 = .ok (.istore 4, 2) := by decide +kernel
theorem dX9_isSo_89 : decode cX9_isSo 89 = .ok (.iinc 5 1, 3) := by decide +kernel
theorem dX9_isSo_92 : decode cX9_isSo 92 = .ok (.goto (-86), 3) := by decide +kernel
theorem dX9_isSo_95 : decode cX9_isSo 95 = .ok (.iload 4, 2) := by decide +kernel
theorem dX9_isSo_97 : decode cX9_isSo 97 = .ok (.ireturn, 1) := by decide +kernel
set_option maxRecDepth 20000 in
theorem ggX9_startsOf_X9_isSo : GoodIn wsX9_startsOf wsX9_isSo := goodIn_r _ [7, 8, 9, 10, 11, 12, 13, 14, 15, 6, 16, 17, 18, 19, 20, 21, 1, 22, 23, 24, 25, 26, 27, 28, 29, 30, 31, 32, 33, 34, 35, 36, 37, 38, 39, 40, 41, 42, 43, 44, 45, 46, 47, 48, 49, 50, 51, 52, 53, 54, 55, 56, 57, 58, 59, 60, 61, 62, 63] (by decide +kernel) (by decide +kernel)
set_option maxRecDepth 20000 in
theorem gX9_startsOf_X9_isSo : GoodIn wsX9_startsOf (wsV RX9 216 RX9 yX9_isSo wsX9_isSo) := goodIn_app (goodIn_of _ (by decide +kernel)) ggX9_startsOf_X9_isSo
theorem dX9_startsOf_0 : decode cX9_startsOf 0 = .ok (.iconst 0, 1) := by decide +kernel
theorem dX9_startsOf_1 : decode cX9_startsOf 1 = .ok (.istore_n 2, 1) := by decide +kernel
theorem dX9_startsOf_2 : decode cX9_startsOf 2 = .ok (.iconst 0, 1) := by decide +kernel
theorem dX9_startsOf_3 : decode cX9_startsOf 3 = .ok (.istore_n 3, 1) := by decide +kernel
theorem dX9_startsOf_4 : decode cX9_startsOf 4 = .ok (.iload_n 3, 1) := by decide +kernel
theorem dX9_startsOf_5 : decode cX9_startsOf 5 = .ok (.aload_n 0, 1) := by decide +kernel
theorem dX9_startsOf_6 : decode cX9_startsOf 6 = .ok (.getfield 13, 3) := by decide +kernel
theorem dX9_startsOf_9 : decode cX9_startsOf 9 = .ok (.iconst 0, 1) := by decide +kernel
theorem dX9_startsOf_10 : decode cX9_startsOf 10 = .ok (.iaload, 1) := by decide +kernel
theorem dX9_startsOf_11 : decode cX9_startsOf 11 = .ok (.if_icmp .ge 34, 3) := by decide +kernel
theorem dX9_startsOf_14 : decode cX9_startsOf 14 = .ok (.iload_n 2, 1) := by decide +kernel
theorem dX9_startsOf_15 : decode cX9_startsOf 15 = .ok (.aload_n 0, 1) := by decide +kernel
theorem dX9_startsOf_16 : decode cX9_startsOf 16 = .ok (.iload_n 1, 1) := by decide +kernel
theorem dX9_startsOf_17 : decode cX9_startsOf 17 = .ok (.iload_n 3, 1) := by decide +kernel
theorem dX9_startsOf_18 : decode cX9_startsOf 18 = .ok (.aload_n 0, 1) := by decide +kernel
theorem dX9_startsOf_19 : decode cX9_startsOf 19 = .ok (.getfield 28, 3) := by decide +kernel
theorem dX9_startsOf_22 : decode cX9_startsOf 22 = .ok (.iload_n 1, 1) := by decide +kernel
theorem dX9_startsOf_23 : decode cX9_startsOf 23 = .ok (.iaload, 1) := by decide +kernel
theorem dX9_startsOf_24 : decode cX9_startsOf 24 = .ok (.invokevirtual 216, 3) := by decide +kernel
theorem dX9_startsOf_27 : decode cX9_startsOf 27 = .ok (.ifCond .eq 9, 3) := by decide +kernel
theorem dX9_startsOf_30 : decode cX9_startsOf 30 = .ok (.iconst 1, 1) := by decide +kernel
theorem dX9_startsOf_31 : decode cX9_startsOf 31 = .ok (.iload_n 3, 1) := by decide +kernel
theorem dX9_startsOf_32 : decode cX9_startsOf 32 = .ok (.ishl, 1) := by decide +kernel
theorem dX9_startsOf_33 : decode cX9_startsOf 33 = .ok (.goto 4, 3) := by decide +kernel
theorem dX9_startsOf_36 : decode cX9_startsOf 36 = .ok (.iconst 0, 1) := by decide +kernel
theorem dX9_startsOf_37 : decode cX9_startsOf 37 = .ok (.ior, 1) := by decide +kernel
theorem dX9_startsOf_38 : decode cX9_startsOf 38 = .ok (.istore_n 2, 1) := by decide +kernel
theorem dX9_startsOf_39 : decode cX9_startsOf 39 = .ok (.iinc 3 1, 3) := by decide +kernel
theorem dX9_startsOf_42 : decode cX9_startsOf 42 = .ok (.goto (-38), 3) := by decide +kernel
theorem dX9_startsOf_45 : decode cX9_startsOf 45 = .ok (.iload_n 2, 1) := by decide +kernel
theorem dX9_startsOf_46 : decode cX9_startsOf 46 = .ok (.ireturn, 1) := by decide +kernel
set_option maxRecDepth 20000 in
theorem ggX9_starts_X9_isSkin : GoodIn wsX9_starts wsX9_isSkin := goodIn_r _ [5, 6, 7, 8, 4, 9, 43, 44, 45, 46, 47, 48, 49, 50, 51, 52, 53, 54, 55, 56, 57, 58, 59, 60, 61, 62, 63, 64, 65, 66, 67, 68, 69, 70, 71, 72, 73, 74, 75] (by decide +kernel) (by decide +kernel)
set_option maxRecDepth 20000 in
theorem gX9_starts_X9_isSkin : GoodIn wsX9_starts (wsV RX9 193 RX9 yX9_isSkin wsX9_isSkin) := goodIn_app (goodIn_of _ (by decide +kernel)) ggX9_starts_X9_isSkin
set_option maxRecDepth 20000 in
theorem ggX9_starts_X9_startsOf : GoodIn wsX9_starts wsX9_startsOf := goodIn_r _ [13, 14, 15, 16, 17, 18, 4, 19, 20, 21, 22, 23, 24, 25, 26, 27, 28, 29, 30, 31, 32, 33, 34, 35, 36, 37, 38, 39, 40, 41, 42, 43, 44, 45, 46, 47, 48, 49, 50, 51, 52, 53, 54, 55, 56, 57, 58, 59, 60, 61, 62, 63, 64, 65, 66, 67, 68, 69, 70, 71, 72, 73, 74, 75] (by decide +kernel) (by decide +kernel)
set_option maxRecDepth 20000 in
theorem gX9_starts_X9_startsOf : GoodIn wsX9_starts (wsV RX9 219 RX9 yX9_startsOf wsX9_startsOf) := goodIn_app (goodIn_of _ (by decide +kernel)) ggX9_starts_X9_startsOf
theorem dX9_starts_0 : decode cX9_starts 0 = .ok (.aload_n 0, 1) := by decide +kernel
theorem dX9_starts_1 : decode cX9_starts 1 = .ok (.iload_n 1, 1) := by decide +kernel
theorem dX9_starts_2 : decode cX9_starts 2 = .ok (.invokevirtual 193, 3) := by decide +kernel
theorem dX9_starts_5 : decode cX9_starts 5 = .ok (.ifCond .eq 11, 3) := by decide +kernel
theorem dX9_starts_8 : decode cX9_starts 8 = .ok (.aload_n 0, 1) := by decide +kernel
theorem dX9_starts_9 : decode cX9_starts 9 = .ok (.iload_n 1, 1) := by decide +kernel
theorem dX9_starts_10 : decode cX9_starts 10 = .ok (.invokevirtual 219, 3) := by decide +kernel
theorem dX9_starts_13 : decode cX9_starts 13 = .ok (.goto 4, 3) := by decide +kernel
theorem dX9_starts_16 : decode cX9_starts 16 = .ok (.iconst (-1), 1) := by decide +kernel
theorem dX9_starts_17 : decode cX9_starts 17 = .ok (.ireturn, 1) := by decide +kernel
set_option maxRecDepth 20000 in
theorem ggX9_laws_X9_isSkin : GoodIn wsX9_laws wsX9_isSkin := goodIn_r _ [6, 7, 8, 9, 5, 10, 39, 40, 41, 42, 43, 44, 45, 46, 47, 48, 49, 50, 51, 52, 53, 54, 55, 56, 57, 58, 59, 60, 61, 62, 63, 64, 65, 66, 67, 68, 69, 70, 71] (by decide +kernel) (by decide +kernel)
set_option maxRecDepth 20000 in
theorem gX9_laws_X9_isSkin : GoodIn wsX9_laws (wsV RX9 193 RX9 yX9_isSkin wsX9_isSkin) := goodIn_app (goodIn_of _ (by decide +kernel)) ggX9_laws_X9_isSkin
set_option maxRecDepth 20000 in
theorem ggX9_laws_X9_isSo : GoodIn wsX9_laws wsX9_isSo := goodIn_r _ [14, 15, 16, 17, 18, 19, 20, 21, 22, 5, 23, 24, 25, 26, 27, 28, 29, 30, 31, 32, 33, 34, 35, 36, 37, 38, 39, 40, 41, 42, 43, 44, 45, 46, 47, 48, 49, 50, 51, 52, 53, 54, 55, 56, 57, 58, 59, 60, 61, 62, 63, 64, 65, 66, 67, 68, 69, 70, 71] (by decide +kernel) (by decide +kernel)
set_option maxRecDepth 20000 in
theorem gX9_laws_X9_isSo : GoodIn wsX9_laws (wsV RX9 216 RX9 yX9_isSo wsX9_isSo) := goodIn_app (goodIn_of _ (by decide +kernel)) ggX9_laws_X9_isSo
theorem dX9_laws_0 : decode cX9_laws 0 = .ok (.aload_n 0, 1) := by decide +kernel
theorem dX9_laws_1 : decode cX9_laws 1 = .ok (.iload_n 1, 1) := by decide +kernel
theorem dX9_laws_2 : decode cX9_laws 2 = .ok (.invokevirtual 193, 3) := by decide +kernel
theorem dX9_laws_5 : decode cX9_laws 5 = .ok (.ifCond .ne 5, 3) := by decide +kernel
theorem dX9_laws_8 : decode cX9_laws 8 = .ok (.iconst (-1), 1) := by decide +kernel
theorem dX9_laws_9 : decode cX9_laws 9 = .ok (.ireturn, 1) := by decide +kernel
theorem dX9_laws_10 : decode cX9_laws 10 = .ok (.iconst 0, 1) := by decide +kernel
theorem dX9_laws_11 : decode cX9_laws 11 = .ok (.istore_n 2, 1) := by decide +kernel
theorem dX9_laws_12 : decode cX9_laws 12 = .ok (.iconst 0, 1) := by decide +kernel
theorem dX9_laws_13 : decode cX9_laws 13 = .ok (.istore_n 3, 1) := by decide +kernel
theorem dX9_laws_14 : decode cX9_laws 14 = .ok (.iload_n 3, 1) := by decide +kernel
theorem dX9_laws_15 : decode cX9_laws 15 = .ok (.iconst 4, 1) := by decide +kernel
theorem dX9_laws_16 : decode cX9_laws 16 = .ok (.if_icmp .ge 34, 3) := by decide +kernel
theorem dX9_laws_19 : decode cX9_laws 19 = .ok (.iload_n 2, 1) := by decide +kernel
theorem dX9_laws_20 : decode cX9_laws 20 = .ok (.aload_n 0, 1) := by decide +kernel
theorem dX9_laws_21 : decode cX9_laws 21 = .ok (.iload_n 1, 1) := by decide +kernel
theorem dX9_laws_22 : decode cX9_laws 22 = .ok (.aload_n 0, 1) := by decide +kernel
theorem dX9_laws_23 : decode cX9_laws 23 = .ok (.getfield 37, 3) := by decide +kernel
theorem dX9_laws_26 : decode cX9_laws 26 = .ok (.iload_n 1, 1) := by decide +kernel
theorem dX9_laws_27 : decode cX9_laws 27 = .ok (.iaload, 1) := by decide +kernel
theorem dX9_laws_28 : decode cX9_laws 28 = .ok (.iload_n 3, 1) := by decide +kernel
theorem dX9_laws_29 : decode cX9_laws 29 = .ok (.invokevirtual 216, 3) := by decide +kernel
theorem dX9_laws_32 : decode cX9_laws 32 = .ok (.ifCond .eq 9, 3) := by decide +kernel
theorem dX9_laws_35 : decode cX9_laws 35 = .ok (.iconst 1, 1) := by decide +kernel
theorem dX9_laws_36 : decode cX9_laws 36 = .ok (.iload_n 3, 1) := by decide +kernel
theorem dX9_laws_37 : decode cX9_laws 37 = .ok (.ishl, 1) := by decide +kernel
theorem dX9_laws_38 : decode cX9_laws 38 = .ok (.goto 4, 3) := by decide +kernel
theorem dX9_laws_41 : decode cX9_laws 41 = .ok (.iconst 0, 1) := by decide +kernel
theorem dX9_laws_42 : decode cX9_laws 42 = .ok (.ior, 1) := by decide +kernel
theorem dX9_laws_43 : decode cX9_laws 43 = .ok (.istore_n 2, 1) := by decide +kernel
theorem dX9_laws_44 : decode cX9_laws 44 = .ok (.iinc 3 1, 3) := by decide +kernel
theorem dX9_laws_47 : decode cX9_laws 47 = .ok (.goto (-33), 3) := by decide +kernel
theorem dX9_laws_50 : decode cX9_laws 50 = .ok (.iload_n 2, 1) := by decide +kernel
theorem dX9_laws_51 : decode cX9_laws 51 = .ok (.ireturn, 1) := by decide +kernel
set_option maxRecDepth 20000 in
theorem ggX9_layThere_X9_placeOn : GoodIn wsX9_layThere wsX9_placeOn := goodIn_r _ [8, 9, 10, 11, 12, 7, 13, 2, 14, 15, 16, 17, 18, 19, 20, 21, 22, 23, 24, 25, 26, 27, 28, 29, 30, 31, 32, 33, 34, 35, 36, 37, 38, 39, 40, 41, 42, 43, 44, 45, 46, 47, 48, 49, 50, 51, 52, 53, 54, 55] (by decide +kernel) (by decide +kernel)
set_option maxRecDepth 20000 in
theorem gX9_layThere_X9_placeOn : GoodIn wsX9_layThere (wsV RX9 179 RX9 yX9_placeOn wsX9_placeOn) := goodIn_app (goodIn_of _ (by decide +kernel)) ggX9_layThere_X9_placeOn
theorem dX9_layThere_0 : decode cX9_layThere 0 = .ok (.iconst 0, 1) := by decide +kernel
theorem dX9_layThere_1 : decode cX9_layThere 1 = .ok (.istore_n 3, 1) := by decide +kernel
theorem dX9_layThere_2 : decode cX9_layThere 2 = .ok (.iload_n 3, 1) := by decide +kernel
theorem dX9_layThere_3 : decode cX9_layThere 3 = .ok (.bipush 9, 2) := by decide +kernel
theorem dX9_layThere_5 : decode cX9_layThere 5 = .ok (.if_icmp .ge 16, 3) := by decide +kernel
theorem dX9_layThere_8 : decode cX9_layThere 8 = .ok (.aload_n 0, 1) := by decide +kernel
theorem dX9_layThere_9 : decode cX9_layThere 9 = .ok (.getfield 85, 3) := by decide +kernel
theorem dX9_layThere_12 : decode cX9_layThere 12 = .ok (.iload_n 3, 1) := by decide +kernel
theorem dX9_layThere_13 : decode cX9_layThere 13 = .ok (.iconst 0, 1) := by decide +kernel
theorem dX9_layThere_14 : decode cX9_layThere 14 = .ok (.iastore, 1) := by decide +kernel
theorem dX9_layThere_15 : decode cX9_layThere 15 = .ok (.iinc 3 1, 3) := by decide +kernel
theorem dX9_layThere_18 : decode cX9_layThere 18 = .ok (.goto (-16), 3) := by decide +kernel
theorem dX9_layThere_21 : decode cX9_layThere 21 = .ok (.iconst 0, 1) := by decide +kernel
theorem dX9_layThere_22 : decode cX9_layThere 22 = .ok (.istore_n 3, 1) := by decide +kernel
theorem dX9_layThere_23 : decode cX9_layThere 23 = .ok (.iload_n 3, 1) := by decide +kernel
theorem dX9_layThere_24 : decode cX9_layThere 24 = .ok (.aload_n 0, 1) := by decide +kernel
theorem dX9_layThere_25 : decode cX9_layThere 25 = .ok (.getfield 13, 3) := by decide +kernel
theorem dX9_layThere_28 : decode cX9_layThere 28 = .ok (.iconst 0, 1) := by decide +kernel
theorem dX9_layThere_29 : decode cX9_layThere 29 = .ok (.iaload, 1) := by decide +kernel
theorem dX9_layThere_30 : decode cX9_layThere 30 = .ok (.if_icmp .ge 32, 3) := by decide +kernel
theorem dX9_layThere_33 : decode cX9_layThere 33 = .ok (.aload_n 0, 1) := by decide +kernel
theorem dX9_layThere_34 : decode cX9_layThere 34 = .ok (.getfield 85, 3) := by decide +kernel
theorem dX9_layThere_37 : decode cX9_layThere 37 = .ok (.aload_n 0, 1) := by decide +kernel
theorem dX9_layThere_38 : decode cX9_layThere 38 = .ok (.iload_n 3, 1) := by decide +kernel
theorem dX9_layThere_39 : decode cX9_layThere 39 = .ok (.aload_n 0, 1) := by decide +kernel
theorem dX9_layThere_40 : decode cX9_layThere 40 = .ok (.getfield 28, 3) := by decide +kernel
theorem dX9_layThere_43 : decode cX9_layThere 43 = .ok (.iload_n 1, 1) := by decide +kernel
theorem dX9_layThere_44 : decode cX9_layThere 44 = .ok (.iaload, 1) := by decide +kernel
theorem dX9_layThere_45 : decode cX9_layThere 45 = .ok (.iload_n 2, 1) := by decide +kernel
theorem dX9_layThere_46 : decode cX9_layThere 46 = .ok (.invokevirtual 179, 3) := by decide +kernel
theorem dX9_layThere_49 : decode cX9_layThere 49 = .ok (.dup2, 1) := by decide +kernel
theorem dX9_layThere_50 : decode cX9_layThere 50 = .ok (.iaload, 1) := by decide +kernel
theorem dX9_layThere_51 : decode cX9_layThere 51 = .ok (.iconst 1, 1) := by decide +kernel
theorem dX9_layThere_52 : decode cX9_layThere 52 = .ok (.iload_n 3, 1) := by decide +kernel
theorem dX9_layThere_53 : decode cX9_layThere 53 = .ok (.ishl, 1) := by decide +kernel
theorem dX9_layThere_54 : decode cX9_layThere 54 = .ok (.ior, 1) := by decide +kernel
theorem dX9_layThere_55 : decode cX9_layThere 55 = .ok (.iastore, 1) := by decide +kernel
theorem dX9_layThere_56 : decode cX9_layThere 56 = .ok (.iinc 3 1, 3) := by decide +kernel
theorem dX9_layThere_59 : decode cX9_layThere 59 = .ok (.goto (-36), 3) := by decide +kernel
theorem dX9_layThere_62 : decode cX9_layThere 62 = .ok (.return_, 1) := by decide +kernel
theorem dX9_goSets_0 : decode cX9_goSets 0 = .ok (.iconst 0, 1) := by decide +kernel
theorem dX9_goSets_1 : decode cX9_goSets 1 = .ok (.istore_n 2, 1) := by decide +kernel
theorem dX9_goSets_2 : decode cX9_goSets 2 = .ok (.iload_n 2, 1) := by decide +kernel
theorem dX9_goSets_3 : decode cX9_goSets 3 = .ok (.sipush 512, 3) := by decide +kernel
theorem dX9_goSets_6 : decode cX9_goSets 6 = .ok (.if_icmp .ge 16, 3) := by decide +kernel
theorem dX9_goSets_9 : decode cX9_goSets 9 = .ok (.aload_n 0, 1) := by decide +kernel
theorem dX9_goSets_10 : decode cX9_goSets 10 = .ok (.getfield 82, 3) := by decide +kernel
theorem dX9_goSets_13 : decode cX9_goSets 13 = .ok (.iload_n 2, 1) := by decide +kernel
theorem dX9_goSets_14 : decode cX9_goSets 14 = .ok (.iconst 0, 1) := by decide +kernel
theorem dX9_goSets_15 : decode cX9_goSets 15 = .ok (.iastore, 1) := by decide +kernel
theorem dX9_goSets_16 : decode cX9_goSets 16 = .ok (.iinc 2 1, 3) := by decide +kernel
theorem dX9_goSets_19 : decode cX9_goSets 19 = .ok (.goto (-17), 3) := by decide +kernel
theorem dX9_goSets_22 : decode cX9_goSets 22 = .ok (.iconst 0, 1) := by decide +kernel
theorem dX9_goSets_23 : decode cX9_goSets 23 = .ok (.istore_n 2, 1) := by decide +kernel
theorem dX9_goSets_24 : decode cX9_goSets 24 = .ok (.iload_n 2, 1) := by decide +kernel
theorem dX9_goSets_25 : decode cX9_goSets 25 = .ok (.sipush 512, 3) := by decide +kernel
theorem dX9_goSets_28 : decode cX9_goSets 28 = .ok (.if_icmp .ge 108, 3) := by decide +kernel
theorem dX9_goSets_31 : decode cX9_goSets 31 = .ok (.iconst 0, 1) := by decide +kernel
theorem dX9_goSets_32 : decode cX9_goSets 32 = .ok (.istore_n 3, 1) := by decide +kernel
theorem dX9_goSets_33 : decode cX9_goSets 33 = .ok (.iload_n 3, 1) := by decide +kernel
theorem dX9_goSets_34 : decode cX9_goSets 34 = .ok (.aload_n 0, 1) := by decide +kernel
theorem dX9_goSets_35 : decode cX9_goSets 35 = .ok (.getfield 13, 3) := by decide +kernel
theorem dX9_goSets_38 : decode cX9_goSets 38 = .ok (.iconst 0, 1) := by decide +kernel
theorem dX9_goSets_39 : decode cX9_goSets 39 = .ok (.iaload, 1) := by decide +kernel
theorem dX9_goSets_40 : decode cX9_goSets 40 = .ok (.if_icmp .ge 90, 3) := by decide +kernel
theorem dX9_goSets_43 : decode cX9_goSets 43 = .ok (.aload_n 0, 1) := by decide +kernel
theorem dX9_goSets_44 : decode cX9_goSets 44 = .ok (.getfield 79, 3) := by decide +kernel
theorem dX9_goSets_47 : decode cX9_goSets 47 = .ok (.iload_n 2, 1) := by decide +kernel
theorem dX9_goSets_48 : decode cX9_goSets 48 = .ok (.iaload, 1) := by decide +kernel
theorem dX9_goSets_49 : decode cX9_goSets 49 = .ok (.ifCond .le 81, 3) := by decide +kernel
theorem dX9_goSets_52 : decode cX9_goSets 52 = .ok (.iload_n 2, 1) := by decide +kernel
theorem dX9_goSets_53 : decode cX9_goSets 53 = .ok (.aload_n 0, 1) := by decide +kernel
theorem dX9_goSets_54 : decode cX9_goSets 54 = .ok (.getfield 85, 3) := by decide +kernel
theorem dX9_goSets_57 : decode cX9_goSets 57 = .ok (.iload_n 3, 1) := by decide +kernel
theorem dX9_goSets_58 : decode cX9_goSets 58 = .ok (.iaload, 1) := by decide +kernel
theorem dX9_goSets_59 : decode cX9_goSets 59 = .ok (.iconst (-1), 1) := by decide +kernel
theorem dX9_goSets_60 : decode cX9_goSets 60 = .ok (.ixor, 1) := by decide +kernel
theorem dX9_goSets_61 : decode cX9_goSets 61 = .ok (.iand, 1) := by decide +kernel
theorem dX9_goSets_62 : decode cX9_goSets 62 = .ok (.istore 4, 2) := by decide +kernel
theorem dX9_goSets_64 : decode cX9_goSets 64 = .ok (.iload_n 1, 1) := by decide +kernel
theorem dX9_goSets_65 : decode cX9_goSets 65 = .ok (.iconst 1, 1) := by decide +kernel
theorem dX9_goSets_66 : decode cX9_goSets 66 = .ok (.if_icmp .ne 9, 3) := by decide +kernel
theorem dX9_goSets_69 : decode cX9_goSets 69 = .ok (.iload_n 3, 1) := by decide +kernel
theorem dX9_goSets_70 : decode cX9_goSets 70 = .ok (.iconst 1, 1) := by decide +kernel
theorem dX9_goSets_71 : decode cX9_goSets 71 = .ok (.iadd, 1) := by decide +kernel
theorem dX9_goSets_72 : decode cX9_goSets 72 = .ok (.goto 9, 3) := by decide +kernel
theorem dX9_goSets_75 : decode cX9_goSets 75 = .ok (.aload_n 0, 1) := by decide +kernel
theorem dX9_goSets_76 : decode cX9_goSets 76 = .ok (.getfield 79, 3) := by decide +kernel
theorem dX9_goSets_79 : decode cX9_goSets 79 = .ok (.iload_n 2, 1) := by decide +kernel
theorem dX9_goSets_80 : decode cX9_goSets 80 = .ok (.iaload, 1) := by decide +kernel
theorem dX9_goSets_81 : decode cX9_goSets 81 = .ok (.istore 5, 2) := by decide +kernel
theorem dX9_goSets_83 : decode cX9_goSets 83 = .ok (.aload_n 0, 1) := by decide +kernel
theorem dX9_goSets_84 : decode cX9_goSets 84 = .ok (.getfield 82, 3) := by decide +kernel
theorem dX9_goSets_87 : decode cX9_goSets 87 = .ok (.iload 4, 2) := by decide +kernel
theorem dX9_goSets_89 : decode cX9_goSets 89 = .ok (.aload_n 0, 1) := by decide +kernel
theorem dX9_goSets_90 : decode cX9_goSets 90 = .ok (.getfield 82, 3) := by decide +kernel
theorem dX9_goSets_93 : decode cX9_goSets 93 = .ok (.iload 4, 2) := by decide +kernel
theorem dX9_goSets_95 : decode cX9_goSets 95 = .ok (.iaload, 1) := by decide +kernel
theorem dX9_goSets_96 : decode cX9_goSets 96 = .ok (.ifCond .eq 15, 3) := by decide +kernel
theorem dX9_goSets_99 : decode cX9_goSets 99 = .ok (.iload 5, 2) := by decide +kernel
theorem dX9_goSets_101 : decode cX9_goSets 101 = .ok (.aload_n 0, 1) := by decide +kernel
theorem dX9_goSets_102 : decode cX9_goSets 102 = .ok (.getfield 82, 3) := by decide +kernel
theorem dX9_goSets_105 : decode cX9_goSets 105 = .ok (.iload 4, 2) := by decide +kernel
theorem dX9_goSets_107 : decode cX9_goSets 107 = .ok (.iaload, 1) := by decide +kernel
theorem dX9_goSets_108 : decode cX9_goSets 108 = .ok (.if_icmp .ge 8, 3) := by decide +kernel
theorem dX9_goSets_111 : decode cX9_goSets 111 = .ok (.iload 5, 2) := by decide +kernel
theorem dX9_goSets_113 : decode cX9_goSets 113 = .ok (.goto 10, 3) := by decide +kernel
theorem dX9_goSets_116 : decode cX9_goSets 116 = .ok (.aload_n 0, 1) := by decide +kernel
theorem dX9_goSets_117 : decode cX9_goSets 117 = .ok (.getfield 82, 3) := by decide +kernel
theorem dX9_goSets_120 : decode cX9_goSets 120 = .ok (.iload 4, 2) := by decide +kernel
theorem dX9_goSets_122 : decode cX9_goSets 122 = .ok (.iaload, 1) := by decide +kernel
theorem dX9_goSets_123 : decode cX9_goSets 123 = .ok (.iastore, 1) := by decide +kernel
theorem dX9_goSets_124 : decode cX9_goSets 124 = .ok (.iinc 3 1, 3) := by decide +kernel
theorem dX9_goSets_127 : decode cX9_goSets 127 = .ok (.goto (-94), 3) := by decide +kernel
theorem dX9_goSets_130 : decode cX9_goSets 130 = .ok (.iinc 2 1, 3) := by decide +kernel
theorem dX9_goSets_133 : decode cX9_goSets 133 = .ok (.goto (-109), 3) := by decide +kernel
theorem dX9_goSets_136 : decode cX9_goSets 136 = .ok (.iconst 0, 1) := by decide +kernel
theorem dX9_goSets_137 : decode cX9_goSets 137 = .ok (.istore_n 2, 1) := by decide +kernel
theorem dX9_goSets_138 : decode cX9_goSets 138 = .ok (.iload_n 2, 1) := by decide +kernel
theorem dX9_goSets_139 : decode cX9_goSets 139 = .ok (.sipush 512, 3) := by decide +kernel
theorem dX9_goSets_142 : decode cX9_goSets 142 = .ok (.if_icmp .ge 21, 3) := by decide +kernel
theorem dX9_goSets_145 : decode cX9_goSets 145 = .ok (.aload_n 0, 1) := by decide +kernel
theorem dX9_goSets_146 : decode cX9_goSets 146 = .ok (.getfield 79, 3) := by decide +kernel
theorem dX9_goSets_149 : decode cX9_goSets 149 = .ok (.iload_n 2, 1) := by decide +kernel
theorem dX9_goSets_150 : decode cX9_goSets 150 = .ok (.aload_n 0, 1) := by decide +kernel
theorem dX9_goSets_151 : decode cX9_goSets 151 = .ok (.getfield 82, 3) := by decide +kernel
theorem dX9_goSets_154 : decode cX9_goSets 154 = .ok (.iload_n 2, 1) := by decide +kernel
theorem dX9_goSets_155 : decode cX9_goSets 155 = .ok (.iaload, 1) := by decide +kernel
theorem dX9_goSets_156 : decode cX9_goSets 156 = .ok (.iastore, 1) := by decide +kernel
theorem dX9_goSets_157 : decode cX9_goSets 157 = .ok (.iinc 2 1, 3) := by decide +kernel
theorem dX9_goSets_160 : decode cX9_goSets 160 = .ok (.goto (-22), 3) := by decide +kernel
theorem dX9_goSets_163 : decode cX9_goSets 163 = .ok (.return_, 1) := by decide +kernel
set_option maxRecDepth 20000 in
theorem ggX9_sure_X9_isSkin : GoodIn wsX9_sure wsX9_isSkin := goodIn_r _ [6, 7, 8, 9, 5, 10, 54, 55, 56, 57, 58, 59, 60, 61, 62, 63, 64, 65, 66, 67, 68, 69, 70, 71, 72, 73, 74, 75, 76, 77, 78, 79, 80, 81, 82, 83, 84, 85, 86] (by decide +kernel) (by decide +kernel)
set_option maxRecDepth 20000 in
theorem gX9_sure_X9_isSkin : GoodIn wsX9_sure (wsV RX9 193 RX9 yX9_isSkin wsX9_isSkin) := goodIn_app (goodIn_of _ (by decide +kernel)) ggX9_sure_X9_isSkin
set_option maxRecDepth 20000 in
theorem ggX9_sure_X9_in : GoodIn wsX9_sure wsX9_in := goodIn_r _ [10] (by decide +kernel) (by decide +kernel)
set_option maxRecDepth 20000 in
theorem gX9_sure_X9_in : GoodIn wsX9_sure (va_wsS RX9 101 yX9_in wsX9_in) := goodIn_app (goodIn_of _ (by decide +kernel)) ggX9_sure_X9_in
set_option maxRecDepth 20000 in
theorem ggX9_sure_X9_startsOf : GoodIn wsX9_sure wsX9_startsOf := goodIn_r _ [14, 15, 16, 17, 18, 19, 5, 20, 21, 22, 23, 24, 25, 26, 27, 28, 29, 30, 31, 32, 33, 34, 35, 36, 37, 38, 39, 40, 41, 42, 43, 54, 55, 56, 57, 58, 59, 60, 61, 62, 63, 64, 65, 66, 67, 68, 69, 70, 71, 72, 73, 74, 75, 76, 77, 78, 79, 80, 81, 82, 83, 84, 85, 86] (by decide +kernel) (by decide +kernel)
set_option maxRecDepth 20000 in
theorem gX9_sure_X9_startsOf : GoodIn wsX9_sure (wsV RX9 219 RX9 yX9_startsOf wsX9_startsOf) := goodIn_app (goodIn_of _ (by decide +kernel)) ggX9_sure_X9_startsOf
set_option maxRecDepth 20000 in
theorem ggX9_sure_X9_layThere : GoodIn wsX9_sure wsX9_layThere := goodIn_r _ [47, 48, 15, 16, 26, 27, 28, 5, 29, 30, 31, 32, 33, 34, 35, 36, 37, 38, 39, 40, 41, 42, 43, 54, 55, 56, 57, 58, 59, 60, 61, 62, 63, 64, 65, 66, 67, 68, 69, 70, 71, 72, 73, 74, 75, 76, 77, 78, 79, 80, 81, 82, 83, 84, 85, 86] (by decide +kernel) (by decide +kernel)
set_option maxRecDepth 20000 in
theorem gX9_sure_X9_layThere : GoodIn wsX9_sure (wsV RX9 222 RX9 yX9_layThere wsX9_layThere) := goodIn_app (goodIn_of _ (by decide +kernel)) ggX9_sure_X9_layThere
set_option maxRecDepth 20000 in
theorem ggX9_sure_X9_goSets : GoodIn wsX9_sure wsX9_goSets := goodIn_r _ [52, 53, 15, 1, 48, 54, 55, 56, 57, 58, 59, 60, 61, 62, 63, 64, 65, 66, 67, 68, 69, 70, 71, 72, 73, 74, 75, 76, 77, 78, 79, 80, 81, 82, 83, 84, 85, 86] (by decide +kernel) (by decide +kernel)
set_option maxRecDepth 20000 in
theorem gX9_sure_X9_goSets : GoodIn wsX9_sure (wsV RX9 225 RX9 yX9_goSets wsX9_goSets) := goodIn_app (goodIn_of _ (by decide +kernel)) ggX9_sure_X9_goSets
theorem dX9_sure_0 : decode cX9_sure 0 = .ok (.aload_n 0, 1) := by decide +kernel
theorem dX9_sure_1 : decode cX9_sure 1 = .ok (.iload_n 1, 1) := by decide +kernel
theorem dX9_sure_2 : decode cX9_sure 2 = .ok (.invokevirtual 193, 3) := by decide +kernel
theorem dX9_sure_5 : decode cX9_sure 5 = .ok (.ifCond .eq 13, 3) := by decide +kernel
theorem dX9_sure_8 : decode cX9_sure 8 = .ok (.iload_n 2, 1) := by decide +kernel
theorem dX9_sure_9 : decode cX9_sure 9 = .ok (.i2l, 1) := by decide +kernel
theorem dX9_sure_10 : decode cX9_sure 10 = .ok (.lconst 0, 1) := by decide +kernel
theorem dX9_sure_11 : decode cX9_sure 11 = .ok (.lconst 1, 1) := by decide +kernel
theorem dX9_sure_12 : decode cX9_sure 12 = .ok (.invokestatic 101, 3) := by decide +kernel
theorem dX9_sure_15 : decode cX9_sure 15 = .ok (.ifCond .ne 5, 3) := by decide +kernel
theorem dX9_sure_18 : decode cX9_sure 18 = .ok (.iconst (-1), 1) := by decide +kernel
theorem dX9_sure_19 : decode cX9_sure 19 = .ok (.ireturn, 1) := by decide +kernel
theorem dX9_sure_20 : decode cX9_sure 20 = .ok (.aload_n 0, 1) := by decide +kernel
theorem dX9_sure_21 : decode cX9_sure 21 = .ok (.iload_n 1, 1) := by decide +kernel
theorem dX9_sure_22 : decode cX9_sure 22 = .ok (.invokevirtual 219, 3) := by decide +kernel
theorem dX9_sure_25 : decode cX9_sure 25 = .ok (.istore_n 3, 1) := by decide +kernel
theorem dX9_sure_26 : decode cX9_sure 26 = .ok (.iload_n 3, 1) := by decide +kernel
theorem dX9_sure_27 : decode cX9_sure 27 = .ok (.ifCond .ne 14, 3) := by decide +kernel
theorem dX9_sure_30 : decode cX9_sure 30 = .ok (.iload_n 2, 1) := by decide +kernel
theorem dX9_sure_31 : decode cX9_sure 31 = .ok (.ifCond .ne 7, 3) := by decide +kernel
theorem dX9_sure_34 : decode cX9_sure 34 = .ok (.iconst 0, 1) := by decide +kernel
theorem dX9_sure_35 : decode cX9_sure 35 = .ok (.goto 5, 3) := by decide +kernel
theorem dX9_sure_38 : decode cX9_sure 38 = .ok (.bipush (-4), 2) := by decide +kernel
theorem dX9_sure_40 : decode cX9_sure 40 = .ok (.ireturn, 1) := by decide +kernel
theorem dX9_sure_41 : decode cX9_sure 41 = .ok (.iconst 0, 1) := by decide +kernel
theorem dX9_sure_42 : decode cX9_sure 42 = .ok (.istore 4, 2) := by decide +kernel
theorem dX9_sure_44 : decode cX9_sure 44 = .ok (.iload 4, 2) := by decide +kernel
theorem dX9_sure_46 : decode cX9_sure 46 = .ok (.sipush 512, 3) := by decide +kernel
theorem dX9_sure_49 : decode cX9_sure 49 = .ok (.if_icmp .ge 27, 3) := by decide +kernel
theorem dX9_sure_52 : decode cX9_sure 52 = .ok (.aload_n 0, 1) := by decide +kernel
theorem dX9_sure_53 : decode cX9_sure 53 = .ok (.getfield 79, 3) := by decide +kernel
theorem dX9_sure_56 : decode cX9_sure 56 = .ok (.iload 4, 2) := by decide +kernel
theorem dX9_sure_58 : decode cX9_sure 58 = .ok (.iload 4, 2) := by decide +kernel
theorem dX9_sure_60 : decode cX9_sure 60 = .ok (.iload_n 3, 1) := by decide +kernel
theorem dX9_sure_61 : decode cX9_sure 61 = .ok (.if_icmp .ne 7, 3) := by decide +kernel
theorem dX9_sure_64 : decode cX9_sure 64 = .ok (.iconst 1, 1) := by decide +kernel
theorem dX9_sure_65 : decode cX9_sure 65 = .ok (.goto 4, 3) := by decide +kernel
theorem dX9_sure_68 : decode cX9_sure 68 = .ok (.iconst 0, 1) := by decide +kernel
theorem dX9_sure_69 : decode cX9_sure 69 = .ok (.iastore, 1) := by decide +kernel
theorem dX9_sure_70 : decode cX9_sure 70 = .ok (.iinc 4 1, 3) := by decide +kernel
theorem dX9_sure_73 : decode cX9_sure 73 = .ok (.goto (-29), 3) := by decide +kernel
theorem dX9_sure_76 : decode cX9_sure 76 = .ok (.iconst 1, 1) := by decide +kernel
theorem dX9_sure_77 : decode cX9_sure 77 = .ok (.istore 4, 2) := by decide +kernel
theorem dX9_sure_79 : decode cX9_sure 79 = .ok (.iload 4, 2) := by decide +kernel
theorem dX9_sure_81 : decode cX9_sure 81 = .ok (.bipush 40, 2) := by decide +kernel
theorem dX9_sure_83 : decode cX9_sure 83 = .ok (.if_icmp .gt 49, 3) := by decide +kernel
theorem dX9_sure_86 : decode cX9_sure 86 = .ok (.aload_n 0, 1) := by decide +kernel
theorem dX9_sure_87 : decode cX9_sure 87 = .ok (.iload_n 1, 1) := by decide +kernel
theorem dX9_sure_88 : decode cX9_sure 88 = .ok (.iload 4, 2) := by decide +kernel
theorem dX9_sure_90 : decode cX9_sure 90 = .ok (.invokevirtual 222, 3) := by decide +kernel
theorem dX9_sure_93 : decode cX9_sure 93 = .ok (.aload_n 0, 1) := by decide +kernel
theorem dX9_sure_94 : decode cX9_sure 94 = .ok (.iload 4, 2) := by decide +kernel
theorem dX9_sure_96 : decode cX9_sure 96 = .ok (.invokevirtual 225, 3) := by decide +kernel
theorem dX9_sure_99 : decode cX9_sure 99 = .ok (.aload_n 0, 1) := by decide +kernel
theorem dX9_sure_100 : decode cX9_sure 100 = .ok (.getfield 79, 3) := by decide +kernel
theorem dX9_sure_103 : decode cX9_sure 103 = .ok (.iconst 0, 1) := by decide +kernel
theorem dX9_sure_104 : decode cX9_sure 104 = .ok (.iaload, 1) := by decide +kernel
theorem dX9_sure_105 : decode cX9_sure 105 = .ok (.ifCond .le 21, 3) := by decide +kernel
theorem dX9_sure_108 : decode cX9_sure 108 = .ok (.iload_n 2, 1) := by decide +kernel
theorem dX9_sure_109 : decode cX9_sure 109 = .ok (.ifCond .ne 8, 3) := by decide +kernel
theorem dX9_sure_112 : decode cX9_sure 112 = .ok (.iload 4, 2) := by decide +kernel
theorem dX9_sure_114 : decode cX9_sure 114 = .ok (.goto 11, 3) := by decide +kernel
theorem dX9_sure_117 : decode cX9_sure 117 = .ok (.aload_n 0, 1) := by decide +kernel
theorem dX9_sure_118 : decode cX9_sure 118 = .ok (.getfield 79, 3) := by decide +kernel
theorem dX9_sure_121 : decode cX9_sure 121 = .ok (.iconst 0, 1) := by decide +kernel
theorem dX9_sure_122 : decode cX9_sure 122 = .ok (.iaload, 1) := by decide +kernel
theorem dX9_sure_123 : decode cX9_sure 123 = .ok (.iconst 1, 1) := by decide +kernel
theorem dX9_sure_124 : decode cX9_sure 124 = .ok (.isub, 1) := by decide +kernel
theorem dX9_sure_125 : decode cX9_sure 125 = .ok (.ireturn, 1) := by decide +kernel
theorem dX9_sure_126 : decode cX9_sure 126 = .ok (.iinc 4 1, 3) := by decide +kernel
theorem dX9_sure_129 : decode cX9_sure 129 = .ok (.goto (-50), 3) := by decide +kernel
theorem dX9_sure_132 : decode cX9_sure 132 = .ok (.bipush (-4), 2) := by decide +kernel
theorem dX9_sure_134 : decode cX9_sure 134 = .ok (.ireturn, 1) := by decide +kernel
set_option maxRecDepth 20000 in
theorem ggX9_lots_X9_isPlace : GoodIn wsX9_lots wsX9_isPlace := goodIn_r _ [10, 3, 11, 12, 9, 13, 14, 15, 16, 17, 18, 19, 20, 21, 22, 23, 24, 25, 26, 27, 28, 29, 30, 31, 32, 33, 34, 35, 36, 37, 38, 39, 40, 41, 42, 43, 44, 45, 46] (by decide +kernel) (by decide +kernel)
set_option maxRecDepth 20000 in
theorem gX9_lots_X9_isPlace : GoodIn wsX9_lots (wsV RX9 158 RX9 yX9_isPlace wsX9_isPlace) := goodIn_app (goodIn_of _ (by decide +kernel)) ggX9_lots_X9_isPlace
set_option maxRecDepth 20000 in
theorem ggX9_lots_X9_in : GoodIn wsX9_lots wsX9_in := goodIn_r _ [13] (by decide +kernel) (by decide +kernel)
set_option maxRecDepth 20000 in
theorem gX9_lots_X9_in : GoodIn wsX9_lots (va_wsS RX9 101 yX9_in wsX9_in) := goodIn_app (goodIn_of _ (by decide +kernel)) ggX9_lots_X9_in
theorem dX9_lots_0 : decode cX9_lots 0 = .ok (.iload_n 1, 1) := by decide +kernel
theorem dX9_lots_1 : decode cX9_lots 1 = .ok (.iconst (-1), 1) := by decide +kernel
theorem dX9_lots_2 : decode cX9_lots 2 = .ok (.if_icmp .eq 11, 3) := by decide +kernel
theorem dX9_lots_5 : decode cX9_lots 5 = .ok (.aload_n 0, 1) := by decide +kernel
theorem dX9_lots_6 : decode cX9_lots 6 = .ok (.iload_n 1, 1) := by decide +kernel
theorem dX9_lots_7 : decode cX9_lots 7 = .ok (.invokevirtual 158, 3) := by decide +kernel
theorem dX9_lots_10 : decode cX9_lots 10 = .ok (.ifCond .eq 27, 3) := by decide +kernel
theorem dX9_lots_13 : decode cX9_lots 13 = .ok (.iload_n 2, 1) := by decide +kernel
theorem dX9_lots_14 : decode cX9_lots 14 = .ok (.i2l, 1) := by decide +kernel
theorem dX9_lots_15 : decode cX9_lots 15 = .ok (.ldc2_w 228, 3) := by decide +kernel
theorem dX9_lots_18 : decode cX9_lots 18 = .ok (.ldc2_w 230, 3) := by decide +kernel
theorem dX9_lots_21 : decode cX9_lots 21 = .ok (.invokestatic 101, 3) := by decide +kernel
theorem dX9_lots_24 : decode cX9_lots 24 = .ok (.ifCond .eq 13, 3) := by decide +kernel
theorem dX9_lots_27 : decode cX9_lots 27 = .ok (.iload_n 3, 1) := by decide +kernel
theorem dX9_lots_28 : decode cX9_lots 28 = .ok (.i2l, 1) := by decide +kernel
theorem dX9_lots_29 : decode cX9_lots 29 = .ok (.lconst 0, 1) := by decide +kernel
theorem dX9_lots_30 : decode cX9_lots 30 = .ok (.lconst 1, 1) := by decide +kernel
theorem dX9_lots_31 : decode cX9_lots 31 = .ok (.invokestatic 101, 3) := by decide +kernel
theorem dX9_lots_34 : decode cX9_lots 34 = .ok (.ifCond .ne 5, 3) := by decide +kernel
theorem dX9_lots_37 : decode cX9_lots 37 = .ok (.iconst (-1), 1) := by decide +kernel
theorem dX9_lots_38 : decode cX9_lots 38 = .ok (.ireturn, 1) := by decide +kernel
theorem dX9_lots_39 : decode cX9_lots 39 = .ok (.iconst 0, 1) := by decide +kernel
theorem dX9_lots_40 : decode cX9_lots 40 = .ok (.istore 4, 2) := by decide +kernel
theorem dX9_lots_42 : decode cX9_lots 42 = .ok (.iconst 0, 1) := by decide +kernel
theorem dX9_lots_43 : decode cX9_lots 43 = .ok (.istore 5, 2) := by decide +kernel
theorem dX9_lots_45 : decode cX9_lots 45 = .ok (.iload 5, 2) := by decide +kernel
theorem dX9_lots_47 : decode cX9_lots 47 = .ok (.aload_n 0, 1) := by decide +kernel
theorem dX9_lots_48 : decode cX9_lots 48 = .ok (.getfield 13, 3) := by decide +kernel
theorem dX9_lots_51 : decode cX9_lots 51 = .ok (.iconst 0, 1) := by decide +kernel
theorem dX9_lots_52 : decode cX9_lots 52 = .ok (.iaload, 1) := by decide +kernel
theorem dX9_lots_53 : decode cX9_lots 53 = .ok (.if_icmp .ge 44, 3) := by decide +kernel
theorem dX9_lots_56 : decode cX9_lots 56 = .ok (.iload 4, 2) := by decide +kernel
theorem dX9_lots_58 : decode cX9_lots 58 = .ok (.iload_n 2, 1) := by decide +kernel
theorem dX9_lots_59 : decode cX9_lots 59 = .ok (.ifCond .lt 14, 3) := by decide +kernel
theorem dX9_lots_62 : decode cX9_lots 62 = .ok (.aload_n 0, 1) := by decide +kernel
theorem dX9_lots_63 : decode cX9_lots 63 = .ok (.getfield 16, 3) := by decide +kernel
theorem dX9_lots_66 : decode cX9_lots 66 = .ok (.iload 5, 2) := by decide +kernel
theorem dX9_lots_68 : decode cX9_lots 68 = .ok (.iaload, 1) := by decide +kernel
theorem dX9_lots_69 : decode cX9_lots 69 = .ok (.iload_n 2, 1) := by decide +kernel
theorem dX9_lots_70 : decode cX9_lots 70 = .ok (.if_icmp .ne 17, 3) := by decide +kernel
theorem dX9_lots_73 : decode cX9_lots 73 = .ok (.sipush 2520, 3) := by decide +kernel
theorem dX9_lots_76 : decode cX9_lots 76 = .ok (.aload_n 0, 1) := by decide +kernel
theorem dX9_lots_77 : decode cX9_lots 77 = .ok (.getfield 19, 3) := by decide +kernel
theorem dX9_lots_80 : decode cX9_lots 80 = .ok (.iload 5, 2) := by decide +kernel
theorem dX9_lots_82 : decode cX9_lots 82 = .ok (.iaload, 1) := by decide +kernel
theorem dX9_lots_83 : decode cX9_lots 83 = .ok (.idiv, 1) := by decide +kernel
theorem dX9_lots_84 : decode cX9_lots 84 = .ok (.goto 4, 3) := by decide +kernel
theorem dX9_lots_87 : decode cX9_lots 87 = .ok (.iconst 0, 1) := by decide +kernel
theorem dX9_lots_88 : decode cX9_lots 88 = .ok (.iadd, 1) := by decide +kernel
theorem dX9_lots_89 : decode cX9_lots 89 = .ok (.istore 4, 2) := by decide +kernel
theorem dX9_lots_91 : decode cX9_lots 91 = .ok (.iinc 5 1, 3) := by decide +kernel
theorem dX9_lots_94 : decode cX9_lots 94 = .ok (.goto (-49), 3) := by decide +kernel
theorem dX9_lots_97 : decode cX9_lots 97 = .ok (.iload 4, 2) := by decide +kernel
theorem dX9_lots_99 : decode cX9_lots 99 = .ok (.ifCond .eq 21, 3) := by decide +kernel
theorem dX9_lots_102 : decode cX9_lots 102 = .ok (.iload_n 1, 1) := by decide +kernel
theorem dX9_lots_103 : decode cX9_lots 103 = .ok (.ifCond .lt 20, 3) := by decide +kernel
theorem dX9_lots_106 : decode cX9_lots 106 = .ok (.iload_n 2, 1) := by decide +kernel
theorem dX9_lots_107 : decode cX9_lots 107 = .ok (.ifCond .lt 16, 3) := by decide +kernel
theorem dX9_lots_110 : decode cX9_lots 110 = .ok (.aload_n 0, 1) := by decide +kernel
theorem dX9_lots_111 : decode cX9_lots 111 = .ok (.getfield 16, 3) := by decide +kernel
theorem dX9_lots_114 : decode cX9_lots 114 = .ok (.iload_n 1, 1) := by decide +kernel
theorem dX9_lots_115 : decode cX9_lots 115 = .ok (.iaload, 1) := by decide +kernel
theorem dX9_lots_116 : decode cX9_lots 116 = .ok (.iload_n 2, 1) := by decide +kernel
theorem dX9_lots_117 : decode cX9_lots 117 = .ok (.if_icmp .eq 6, 3) := by decide +kernel
theorem dX9_lots_120 : decode cX9_lots 120 = .ok (.bipush (-2), 2) := by decide +kernel
theorem dX9_lots_122 : decode cX9_lots 122 = .ok (.ireturn, 1) := by decide +kernel
theorem dX9_lots_123 : decode cX9_lots 123 = .ok (.iload_n 1, 1) := by decide +kernel
theorem dX9_lots_124 : decode cX9_lots 124 = .ok (.ifCond .ge 9, 3) := by decide +kernel
theorem dX9_lots_127 : decode cX9_lots 127 = .ok (.sipush 252, 3) := by decide +kernel
theorem dX9_lots_130 : decode cX9_lots 130 = .ok (.goto 13, 3) := by decide +kernel
theorem dX9_lots_133 : decode cX9_lots 133 = .ok (.sipush 2520, 3) := by decide +kernel
theorem dX9_lots_136 : decode cX9_lots 136 = .ok (.aload_n 0, 1) := by decide +kernel
theorem dX9_lots_137 : decode cX9_lots 137 = .ok (.getfield 19, 3) := by decide +kernel
theorem dX9_lots_140 : decode cX9_lots 140 = .ok (.iload_n 1, 1) := by decide +kernel
theorem dX9_lots_141 : decode cX9_lots 141 = .ok (.iaload, 1) := by decide +kernel
theorem dX9_lots_142 : decode cX9_lots 142 = .ok (.idiv, 1) := by decide +kernel
theorem dX9_lots_143 : decode cX9_lots 143 = .ok (.istore 5, 2) := by decide +kernel
theorem dX9_lots_145 : decode cX9_lots 145 = .ok (.iload 5, 2) := by decide +kernel
theorem dX9_lots_147 : decode cX9_lots 147 = .ok (.istore 6, 2) := by decide +kernel
theorem dX9_lots_149 : decode cX9_lots 149 = .ok (.iload 4, 2) := by decide +kernel
theorem dX9_lots_151 : decode cX9_lots 151 = .ok (.istore 7, 2) := by decide +kernel
theorem dX9_lots_153 : decode cX9_lots 153 = .ok (.iload 7, 2) := by decide +kernel
theorem dX9_lots_155 : decode cX9_lots 155 = .ok (.ifCond .eq 21, 3) := by decide +kernel
theorem dX9_lots_158 : decode cX9_lots 158 = .ok (.iload 6, 2) := by decide +kernel
theorem dX9_lots_160 : decode cX9_lots 160 = .ok (.iload 7, 2) := by decide +kernel
theorem dX9_lots_162 : decode cX9_lots 162 = .ok (.irem, 1) := by decide +kernel
theorem dX9_lots_163 : decode cX9_lots 163 = .ok (.istore 8, 2) := by decide +kernel
theorem dX9_lots_165 : decode cX9_lots 165 = .ok (.iload 7, 2) := by decide +kernel
theorem dX9_lots_167 : decode cX9_lots 167 = .ok (.istore 6, 2) := by decide +kernel
theorem dX9_lots_169 : decode cX9_lots 169 = .ok (.iload 8, 2) := by decide +kernel
theorem dX9_lots_171 : decode cX9_lots 171 = .ok (.istore 7, 2) := by decide +kernel
theorem dX9_lots_173 : decode cX9_lots 173 = .ok (.goto (-20), 3) := by decide +kernel
theorem dX9_lots_176 : decode cX9_lots 176 = .ok (.iload_n 3, 1) := by decide +kernel
theorem dX9_lots_177 : decode cX9_lots 177 = .ok (.ifCond .ne 11, 3) := by decide +kernel
theorem dX9_lots_180 : decode cX9_lots 180 = .ok (.iload 5, 2) := by decide +kernel
theorem dX9_lots_182 : decode cX9_lots 182 = .ok (.iload 6, 2) := by decide +kernel
theorem dX9_lots_184 : decode cX9_lots 184 = .ok (.idiv, 1) := by decide +kernel
theorem dX9_lots_185 : decode cX9_lots 185 = .ok (.goto 8, 3) := by decide +kernel
theorem dX9_lots_188 : decode cX9_lots 188 = .ok (.iload 4, 2) := by decide +kernel
theorem dX9_lots_190 : decode cX9_lots 190 = .ok (.iload 6, 2) := by decide +kernel
theorem dX9_lots_192 : decode cX9_lots 192 = .ok (.idiv, 1) := by decide +kernel
theorem dX9_lots_193 : decode cX9_lots 193 = .ok (.ireturn, 1) := by decide +kernel
set_option maxRecDepth 20000 in
theorem ggX9_year_X9_in : GoodIn wsX9_year wsX9_in := goodIn_r _ [12] (by decide +kernel) (by decide +kernel)
set_option maxRecDepth 20000 in
theorem gX9_year_X9_in : GoodIn wsX9_year (va_wsS RX9 101 yX9_in wsX9_in) := goodIn_app (goodIn_of _ (by decide +kernel)) ggX9_year_X9_in
set_option maxRecDepth 20000 in
theorem ggX9_year_X9_goAll : GoodIn wsX9_year wsX9_goAll := goodIn_r _ [16, 17, 18, 19, 20, 21, 22, 23, 24, 11, 25, 26, 2, 6, 27, 28, 29, 30, 31, 32, 33, 34, 35, 36, 37, 8, 38, 39, 40, 41, 42, 43, 44, 45, 46, 47, 48, 49, 50, 51, 52, 53, 54, 55, 56, 57, 58, 9, 10, 12, 68, 69, 70, 71, 72, 73, 74, 75, 76, 77, 78, 79, 80, 81, 82, 83, 84, 85, 86, 87, 88, 89, 90, 91, 92, 93, 94, 95, 96, 97, 98, 99, 100] (by decide +kernel) (by decide +kernel)
set_option maxRecDepth 20000 in
theorem gX9_year_X9_goAll : GoodIn wsX9_year (wsV RX9 190 RX9 yX9_goAll wsX9_goAll) := goodIn_app (goodIn_of _ (by decide +kernel)) ggX9_year_X9_goAll
set_option maxRecDepth 20000 in
theorem ggX9_year_X9_goesOn : GoodIn wsX9_year wsX9_goesOn := goodIn_r _ [62, 19, 63, 68, 69, 70, 71, 72, 73, 74, 75, 76, 77, 78, 79, 80, 81, 82, 83, 84, 85, 86, 87, 88, 89, 90, 91, 92, 93, 94, 95, 96, 97, 98, 99, 100] (by decide +kernel) (by decide +kernel)
set_option maxRecDepth 20000 in
theorem gX9_year_X9_goesOn : GoodIn wsX9_year (wsV RX9 205 RX9 yX9_goesOn wsX9_goesOn) := goodIn_app (goodIn_of _ (by decide +kernel)) ggX9_year_X9_goesOn
set_option maxRecDepth 20000 in
theorem ggX9_year_X9_goneBy : GoodIn wsX9_year wsX9_goneBy := goodIn_r _ [67, 2, 59, 60, 61, 11, 62, 19, 63, 9, 10, 12, 68, 69, 70, 71, 72, 73, 74, 75, 76, 77, 78, 79, 80, 81, 82, 83, 84, 85, 86, 87, 88, 89, 90, 91, 92, 93, 94, 95, 96, 97, 98, 99, 100] (by decide +kernel) (by decide +kernel)
set_option maxRecDepth 20000 in
theorem gX9_year_X9_goneBy : GoodIn wsX9_year (wsV RX9 210 RX9 yX9_goneBy wsX9_goneBy) := goodIn_app (goodIn_of _ (by decide +kernel)) ggX9_year_X9_goneBy
theorem dX9_year_0 : decode cX9_year 0 = .ok (.iload_n 1, 1) := by decide +kernel
theorem dX9_year_1 : decode cX9_year 1 = .ok (.i2l, 1) := by decide +kernel
theorem dX9_year_2 : decode cX9_year 2 = .ok (.lconst 0, 1) := by decide +kernel
theorem dX9_year_3 : decode cX9_year 3 = .ok (.ldc2_w 232, 3) := by decide +kernel
theorem dX9_year_6 : decode cX9_year 6 = .ok (.invokestatic 101, 3) := by decide +kernel
theorem dX9_year_9 : decode cX9_year 9 = .ok (.ifCond .eq 13, 3) := by decide +kernel
theorem dX9_year_12 : decode cX9_year 12 = .ok (.iload_n 2, 1) := by decide +kernel
theorem dX9_year_13 : decode cX9_year 13 = .ok (.i2l, 1) := by decide +kernel
theorem dX9_year_14 : decode cX9_year 14 = .ok (.lconst 0, 1) := by decide +kernel
theorem dX9_year_15 : decode cX9_year 15 = .ok (.lconst 1, 1) := by decide +kernel
theorem dX9_year_16 : decode cX9_year 16 = .ok (.invokestatic 101, 3) := by decide +kernel
theorem dX9_year_19 : decode cX9_year 19 = .ok (.ifCond .ne 5, 3) := by decide +kernel
theorem dX9_year_22 : decode cX9_year 22 = .ok (.iconst (-1), 1) := by decide +kernel
theorem dX9_year_23 : decode cX9_year 23 = .ok (.ireturn, 1) := by decide +kernel
theorem dX9_year_24 : decode cX9_year 24 = .ok (.iconst 0, 1) := by decide +kernel
theorem dX9_year_25 : decode cX9_year 25 = .ok (.istore_n 3, 1) := by decide +kernel
theorem dX9_year_26 : decode cX9_year 26 = .ok (.iload_n 3, 1) := by decide +kernel
theorem dX9_year_27 : decode cX9_year 27 = .ok (.aload_n 0, 1) := by decide +kernel
theorem dX9_year_28 : decode cX9_year 28 = .ok (.getfield 22, 3) := by decide +kernel
theorem dX9_year_31 : decode cX9_year 31 = .ok (.iconst 0, 1) := by decide +kernel
theorem dX9_year_32 : decode cX9_year 32 = .ok (.iaload, 1) := by decide +kernel
theorem dX9_year_33 : decode cX9_year 33 = .ok (.if_icmp .ge 62, 3) := by decide +kernel
theorem dX9_year_36 : decode cX9_year 36 = .ok (.ldc2_w 234, 3) := by decide +kernel
theorem dX9_year_39 : decode cX9_year 39 = .ok (.iload_n 1, 1) := by decide +kernel
theorem dX9_year_40 : decode cX9_year 40 = .ok (.i2l, 1) := by decide +kernel
theorem dX9_year_41 : decode cX9_year 41 = .ok (.lmul, 1) := by decide +kernel
theorem dX9_year_42 : decode cX9_year 42 = .ok (.ldc2_w 236, 3) := by decide +kernel
theorem dX9_year_45 : decode cX9_year 45 = .ok (.iload_n 3, 1) := by decide +kernel
theorem dX9_year_46 : decode cX9_year 46 = .ok (.i2l, 1) := by decide +kernel
theorem dX9_year_47 : decode cX9_year 47 = .ok (.lmul, 1) := by decide +kernel
theorem dX9_year_48 : decode cX9_year 48 = .ok (.ladd, 1) := by decide +kernel
theorem dX9_year_49 : decode cX9_year 49 = .ok (.lconst 1, 1) := by decide +kernel
theorem dX9_year_50 : decode cX9_year 50 = .ok (.ladd, 1) := by decide +kernel
theorem dX9_year_51 : decode cX9_year 51 = .ok (.lstore 4, 2) := by decide +kernel
theorem dX9_year_53 : decode cX9_year 53 = .ok (.aload_n 0, 1) := by decide +kernel
theorem dX9_year_54 : decode cX9_year 54 = .ok (.getfield 88, 3) := by decide +kernel
theorem dX9_year_57 : decode cX9_year 57 = .ok (.iload_n 3, 1) := by decide +kernel
theorem dX9_year_58 : decode cX9_year 58 = .ok (.aload_n 0, 1) := by decide +kernel
theorem dX9_year_59 : decode cX9_year 59 = .ok (.getfield 37, 3) := by decide +kernel
theorem dX9_year_62 : decode cX9_year 62 = .ok (.iload_n 3, 1) := by decide +kernel
theorem dX9_year_63 : decode cX9_year 63 = .ok (.iaload, 1) := by decide +kernel
theorem dX9_year_64 : decode cX9_year 64 = .ok (.iastore, 1) := by decide +kernel
theorem dX9_year_65 : decode cX9_year 65 = .ok (.aload_n 0, 1) := by decide +kernel
theorem dX9_year_66 : decode cX9_year 66 = .ok (.getfield 37, 3) := by decide +kernel
theorem dX9_year_69 : decode cX9_year 69 = .ok (.iload_n 3, 1) := by decide +kernel
theorem dX9_year_70 : decode cX9_year 70 = .ok (.lload 4, 2) := by decide +kernel
theorem dX9_year_72 : decode cX9_year 72 = .ok (.lload 4, 2) := by decide +kernel
theorem dX9_year_74 : decode cX9_year 74 = .ok (.lmul, 1) := by decide +kernel
theorem dX9_year_75 : decode cX9_year 75 = .ok (.ldc2_w 238, 3) := by decide +kernel
theorem dX9_year_78 : decode cX9_year 78 = .ok (.lrem, 1) := by decide +kernel
theorem dX9_year_79 : decode cX9_year 79 = .ok (.aload_n 0, 1) := by decide +kernel
theorem dX9_year_80 : decode cX9_year 80 = .ok (.getfield 13, 3) := by decide +kernel
theorem dX9_year_83 : decode cX9_year 83 = .ok (.iconst 0, 1) := by decide +kernel
theorem dX9_year_84 : decode cX9_year 84 = .ok (.iaload, 1) := by decide +kernel
theorem dX9_year_85 : decode cX9_year 85 = .ok (.i2l, 1) := by decide +kernel
theorem dX9_year_86 : decode cX9_year 86 = .ok (.lrem, 1) := by decide +kernel
theorem dX9_year_87 : decode cX9_year 87 = .ok (.l2i, 1) := by decide +kernel
theorem dX9_year_88 : decode cX9_year 88 = .ok (.iastore, 1) := by decide +kernel
theorem dX9_year_89 : decode cX9_year 89 = .ok (.iinc 3 1, 3) := by decide +kernel
theorem dX9_year_92 : decode cX9_year 92 = .ok (.goto (-66), 3) := by decide +kernel
theorem dX9_year_95 : decode cX9_year 95 = .ok (.aload_n 0, 1) := by decide +kernel
theorem dX9_year_96 : decode cX9_year 96 = .ok (.invokevirtual 190, 3) := by decide +kernel
theorem dX9_year_99 : decode cX9_year 99 = .ok (.bipush (-4), 2) := by decide +kernel
theorem dX9_year_101 : decode cX9_year 101 = .ok (.istore_n 3, 1) := by decide +kernel
theorem dX9_year_102 : decode cX9_year 102 = .ok (.iconst 0, 1) := by decide +kernel
theorem dX9_year_103 : decode cX9_year 103 = .ok (.istore 4, 2) := by decide +kernel
theorem dX9_year_105 : decode cX9_year 105 = .ok (.iload 4, 2) := by decide +kernel
theorem dX9_year_107 : decode cX9_year 107 = .ok (.aload_n 0, 1) := by decide +kernel
theorem dX9_year_108 : decode cX9_year 108 = .ok (.getfield 22, 3) := by decide +kernel
theorem dX9_year_111 : decode cX9_year 111 = .ok (.iconst 0, 1) := by decide +kernel
theorem dX9_year_112 : decode cX9_year 112 = .ok (.iaload, 1) := by decide +kernel
theorem dX9_year_113 : decode cX9_year 113 = .ok (.if_icmp .ge 55, 3) := by decide +kernel
theorem dX9_year_116 : decode cX9_year 116 = .ok (.aload_n 0, 1) := by decide +kernel
theorem dX9_year_117 : decode cX9_year 117 = .ok (.getfield 37, 3) := by decide +kernel
theorem dX9_year_120 : decode cX9_year 120 = .ok (.iload 4, 2) := by decide +kernel
theorem dX9_year_122 : decode cX9_year 122 = .ok (.aload_n 0, 1) := by decide +kernel
theorem dX9_year_123 : decode cX9_year 123 = .ok (.getfield 88, 3) := by decide +kernel
theorem dX9_year_126 : decode cX9_year 126 = .ok (.iload 4, 2) := by decide +kernel
theorem dX9_year_128 : decode cX9_year 128 = .ok (.iaload, 1) := by decide +kernel
theorem dX9_year_129 : decode cX9_year 129 = .ok (.iastore, 1) := by decide +kernel
theorem dX9_year_130 : decode cX9_year 130 = .ok (.aload_n 0, 1) := by decide +kernel
theorem dX9_year_131 : decode cX9_year 131 = .ok (.iload 4, 2) := by decide +kernel
theorem dX9_year_133 : decode cX9_year 133 = .ok (.invokevirtual 205, 3) := by decide +kernel
theorem dX9_year_136 : decode cX9_year 136 = .ok (.bipush 60, 2) := by decide +kernel
theorem dX9_year_138 : decode cX9_year 138 = .ok (.if_icmp .gt 22, 3) := by decide +kernel
theorem dX9_year_141 : decode cX9_year 141 = .ok (.aload_n 0, 1) := by decide +kernel
theorem dX9_year_142 : decode cX9_year 142 = .ok (.iload 4, 2) := by decide +kernel
theorem dX9_year_144 : decode cX9_year 144 = .ok (.invokevirtual 205, 3) := by decide +kernel
theorem dX9_year_147 : decode cX9_year 147 = .ok (.iload_n 3, 1) := by decide +kernel
theorem dX9_year_148 : decode cX9_year 148 = .ok (.if_icmp .le 12, 3) := by decide +kernel
theorem dX9_year_151 : decode cX9_year 151 = .ok (.aload_n 0, 1) := by decide +kernel
theorem dX9_year_152 : decode cX9_year 152 = .ok (.iload 4, 2) := by decide +kernel
theorem dX9_year_154 : decode cX9_year 154 = .ok (.invokevirtual 205, 3) := by decide +kernel
theorem dX9_year_157 : decode cX9_year 157 = .ok (.goto 4, 3) := by decide +kernel
theorem dX9_year_160 : decode cX9_year 160 = .ok (.iload_n 3, 1) := by decide +kernel
theorem dX9_year_161 : decode cX9_year 161 = .ok (.istore_n 3, 1) := by decide +kernel
theorem dX9_year_162 : decode cX9_year 162 = .ok (.iinc 4 1, 3) := by decide +kernel
theorem dX9_year_165 : decode cX9_year 165 = .ok (.goto (-60), 3) := by decide +kernel
theorem dX9_year_168 : decode cX9_year 168 = .ok (.iload_n 2, 1) := by decide +kernel
theorem dX9_year_169 : decode cX9_year 169 = .ok (.ifCond .ne 12, 3) := by decide +kernel
theorem dX9_year_172 : decode cX9_year 172 = .ok (.aload_n 0, 1) := by decide +kernel
theorem dX9_year_173 : decode cX9_year 173 = .ok (.bipush 60, 2) := by decide +kernel
theorem dX9_year_175 : decode cX9_year 175 = .ok (.invokevirtual 210, 3) := by decide +kernel
theorem dX9_year_178 : decode cX9_year 178 = .ok (.goto 4, 3) := by decide +kernel
theorem dX9_year_181 : decode cX9_year 181 = .ok (.iload_n 3, 1) := by decide +kernel
theorem dX9_year_182 : decode cX9_year 182 = .ok (.ireturn, 1) := by decide +kernel
set_option maxRecDepth 20000 in
theorem ggX9_keep_X9_copy : GoodIn wsX9_keep wsX9_copy := goodIn_r _ [6, 7, 8, 9, 10, 11, 12, 13, 14, 15, 16, 17, 18, 19, 20, 21, 22, 23, 24, 25, 26, 27, 28, 29, 30, 31, 32, 33, 34, 35, 36, 37, 38, 39, 40, 41, 42, 43, 44] (by decide +kernel) (by decide +kernel)
set_option maxRecDepth 20000 in
theorem gX9_keep_X9_copy : GoodIn wsX9_keep (wsV RX9 145 RX9 yX9_copy wsX9_copy) := goodIn_app (goodIn_of _ (by decide +kernel)) ggX9_keep_X9_copy
theorem dX9_keep_0 : decode cX9_keep 0 = .ok (.aload_n 0, 1) := by decide +kernel
theorem dX9_keep_1 : decode cX9_keep 1 = .ok (.getfield 149, 3) := by decide +kernel
theorem dX9_keep_4 : decode cX9_keep 4 = .ok (.iconst 2, 1) := by decide +kernel
theorem dX9_keep_5 : decode cX9_keep 5 = .ok (.if_icmp .ne 6, 3) := by decide +kernel
theorem dX9_keep_8 : decode cX9_keep 8 = .ok (.bipush (-3), 2) := by decide +kernel
theorem dX9_keep_10 : decode cX9_keep 10 = .ok (.ireturn, 1) := by decide +kernel
theorem dX9_keep_11 : decode cX9_keep 11 = .ok (.aload_n 0, 1) := by decide +kernel
theorem dX9_keep_12 : decode cX9_keep 12 = .ok (.dup, 1) := by decide +kernel
theorem dX9_keep_13 : decode cX9_keep 13 = .ok (.getfield 149, 3) := by decide +kernel
theorem dX9_keep_16 : decode cX9_keep 16 = .ok (.iconst 1, 1) := by decide +kernel
theorem dX9_keep_17 : decode cX9_keep 17 = .ok (.iadd, 1) := by decide +kernel
theorem dX9_keep_18 : decode cX9_keep 18 = .ok (.putfield 149, 3) := by decide +kernel
theorem dX9_keep_21 : decode cX9_keep 21 = .ok (.aload_n 0, 1) := by decide +kernel
theorem dX9_keep_22 : decode cX9_keep 22 = .ok (.iconst 0, 1) := by decide +kernel
theorem dX9_keep_23 : decode cX9_keep 23 = .ok (.iconst 1, 1) := by decide +kernel
theorem dX9_keep_24 : decode cX9_keep 24 = .ok (.aload_n 0, 1) := by decide +kernel
theorem dX9_keep_25 : decode cX9_keep 25 = .ok (.getfield 149, 3) := by decide +kernel
theorem dX9_keep_28 : decode cX9_keep 28 = .ok (.iadd, 1) := by decide +kernel
theorem dX9_keep_29 : decode cX9_keep 29 = .ok (.invokevirtual 145, 3) := by decide +kernel
theorem dX9_keep_32 : decode cX9_keep 32 = .ok (.aload_n 0, 1) := by decide +kernel
theorem dX9_keep_33 : decode cX9_keep 33 = .ok (.getfield 149, 3) := by decide +kernel
theorem dX9_keep_36 : decode cX9_keep 36 = .ok (.ireturn, 1) := by decide +kernel
set_option maxRecDepth 20000 in
theorem ggX9_back_X9_copy : GoodIn wsX9_back wsX9_copy := goodIn_r _ [7, 8, 9, 10, 11, 12, 13, 14, 15, 16, 17, 18, 19, 20, 21, 22, 23, 24, 25, 26, 27, 28, 29, 30, 31, 32, 33, 34, 35, 36, 37, 38, 39, 40, 41, 42, 43, 44, 45] (by decide +kernel) (by decide +kernel)
set_option maxRecDepth 20000 in
theorem gX9_back_X9_copy : GoodIn wsX9_back (wsV RX9 145 RX9 yX9_copy wsX9_copy) := goodIn_app (goodIn_of _ (by decide +kernel)) ggX9_back_X9_copy
theorem dX9_back_0 : decode cX9_back 0 = .ok (.aload_n 0, 1) := by decide +kernel
theorem dX9_back_1 : decode cX9_back 1 = .ok (.getfield 149, 3) := by decide +kernel
theorem dX9_back_4 : decode cX9_back 4 = .ok (.ifCond .ne 6, 3) := by decide +kernel
theorem dX9_back_7 : decode cX9_back 7 = .ok (.bipush (-2), 2) := by decide +kernel
theorem dX9_back_9 : decode cX9_back 9 = .ok (.ireturn, 1) := by decide +kernel
theorem dX9_back_10 : decode cX9_back 10 = .ok (.aload_n 0, 1) := by decide +kernel
theorem dX9_back_11 : decode cX9_back 11 = .ok (.iconst 1, 1) := by decide +kernel
theorem dX9_back_12 : decode cX9_back 12 = .ok (.aload_n 0, 1) := by decide +kernel
theorem dX9_back_13 : decode cX9_back 13 = .ok (.getfield 149, 3) := by decide +kernel
theorem dX9_back_16 : decode cX9_back 16 = .ok (.iadd, 1) := by decide +kernel
theorem dX9_back_17 : decode cX9_back 17 = .ok (.iconst 0, 1) := by decide +kernel
theorem dX9_back_18 : decode cX9_back 18 = .ok (.invokevirtual 145, 3) := by decide +kernel
theorem dX9_back_21 : decode cX9_back 21 = .ok (.aload_n 0, 1) := by decide +kernel
theorem dX9_back_22 : decode cX9_back 22 = .ok (.dup, 1) := by decide +kernel
theorem dX9_back_23 : decode cX9_back 23 = .ok (.getfield 149, 3) := by decide +kernel
theorem dX9_back_26 : decode cX9_back 26 = .ok (.iconst 1, 1) := by decide +kernel
theorem dX9_back_27 : decode cX9_back 27 = .ok (.isub, 1) := by decide +kernel
theorem dX9_back_28 : decode cX9_back 28 = .ok (.putfield 149, 3) := by decide +kernel
theorem dX9_back_31 : decode cX9_back 31 = .ok (.aload_n 0, 1) := by decide +kernel
theorem dX9_back_32 : decode cX9_back 32 = .ok (.iconst 0, 1) := by decide +kernel
theorem dX9_back_33 : decode cX9_back 33 = .ok (.putfield 152, 3) := by decide +kernel
theorem dX9_back_36 : decode cX9_back 36 = .ok (.aload_n 0, 1) := by decide +kernel
theorem dX9_back_37 : decode cX9_back 37 = .ok (.getfield 149, 3) := by decide +kernel
theorem dX9_back_40 : decode cX9_back 40 = .ok (.ireturn, 1) := by decide +kernel
theorem dX9_count_0 : decode cX9_count 0 = .ok (.iload_n 1, 1) := by decide +kernel
theorem dX9_count_1 : decode cX9_count 1 = .ok (.tableswitch 84 0 6 #[43, 50, 57, 64, 69, 74, 79], 43) := by decide +kernel
theorem dX9_count_44 : decode cX9_count 44 = .ok (.aload_n 0, 1) := by decide +kernel
theorem dX9_count_45 : decode cX9_count 45 = .ok (.getfield 13, 3) := by decide +kernel
theorem dX9_count_48 : decode cX9_count 48 = .ok (.iconst 0, 1) := by decide +kernel
theorem dX9_count_49 : decode cX9_count 49 = .ok (.iaload, 1) := by decide +kernel
theorem dX9_count_50 : decode cX9_count 50 = .ok (.ireturn, 1) := by decide +kernel
theorem dX9_count_51 : decode cX9_count 51 = .ok (.aload_n 0, 1) := by decide +kernel
theorem dX9_count_52 : decode cX9_count 52 = .ok (.getfield 22, 3) := by decide +kernel
theorem dX9_count_55 : decode cX9_count 55 = .ok (.iconst 0, 1) := by decide +kernel
theorem dX9_count_56 : decode cX9_count 56 = .ok (.iaload, 1) := by decide +kernel
theorem dX9_count_57 : decode cX9_count 57 = .ok (.ireturn, 1) := by decide +kernel
theorem dX9_count_58 : decode cX9_count 58 = .ok (.aload_n 0, 1) := by decide +kernel
theorem dX9_count_59 : decode cX9_count 59 = .ok (.getfield 40, 3) := by decide +kernel
theorem dX9_count_62 : decode cX9_count 62 = .ok (.iconst 0, 1) := by decide +kernel
theorem dX9_count_63 : decode cX9_count 63 = .ok (.iaload, 1) := by decide +kernel
theorem dX9_count_64 : decode cX9_count 64 = .ok (.ireturn, 1) := by decide +kernel
theorem dX9_count_65 : decode cX9_count 65 = .ok (.aload_n 0, 1) := by decide +kernel
theorem dX9_count_66 : decode cX9_count 66 = .ok (.getfield 155, 3) := by decide +kernel
theorem dX9_count_69 : decode cX9_count 69 = .ok (.ireturn, 1) := by decide +kernel
theorem dX9_count_70 : decode cX9_count 70 = .ok (.aload_n 0, 1) := by decide +kernel
theorem dX9_count_71 : decode cX9_count 71 = .ok (.getfield 152, 3) := by decide +kernel
theorem dX9_count_74 : decode cX9_count 74 = .ok (.ireturn, 1) := by decide +kernel
theorem dX9_count_75 : decode cX9_count 75 = .ok (.aload_n 0, 1) := by decide +kernel
theorem dX9_count_76 : decode cX9_count 76 = .ok (.getfield 149, 3) := by decide +kernel
theorem dX9_count_79 : decode cX9_count 79 = .ok (.ireturn, 1) := by decide +kernel
theorem dX9_count_80 : decode cX9_count 80 = .ok (.aload_n 0, 1) := by decide +kernel
theorem dX9_count_81 : decode cX9_count 81 = .ok (.getfield 105, 3) := by decide +kernel
theorem dX9_count_84 : decode cX9_count 84 = .ok (.ireturn, 1) := by decide +kernel
theorem dX9_count_85 : decode cX9_count 85 = .ok (.iconst (-1), 1) := by decide +kernel
theorem dX9_count_86 : decode cX9_count 86 = .ok (.ireturn, 1) := by decide +kernel
theorem dJ9_abs_0f7a4_0 : decode cJ9_abs_0f7a4 0 = .ok (.iload_n 0, 1) := by decide +kernel
theorem dJ9_abs_0f7a4_1 : decode cJ9_abs_0f7a4 1 = .ok (.ifCond .ge 8, 3) := by decide +kernel
theorem dJ9_abs_0f7a4_4 : decode cJ9_abs_0f7a4 4 = .ok (.iload_n 0, 1) := by decide +kernel
theorem dJ9_abs_0f7a4_5 : decode cJ9_abs_0f7a4 5 = .ok (.ineg, 1) := by decide +kernel
theorem dJ9_abs_0f7a4_6 : decode cJ9_abs_0f7a4 6 = .ok (.goto 4, 3) := by decide +kernel
theorem dJ9_abs_0f7a4_9 : decode cJ9_abs_0f7a4 9 = .ok (.iload_n 0, 1) := by decide +kernel
theorem dJ9_abs_0f7a4_10 : decode cJ9_abs_0f7a4 10 = .ok (.ireturn, 1) := by decide +kernel
theorem dJ9_max_7cf53_0 : decode cJ9_max_7cf53 0 = .ok (.iload_n 0, 1) := by decide +kernel
theorem dJ9_max_7cf53_1 : decode cJ9_max_7cf53 1 = .ok (.iload_n 1, 1) := by decide +kernel
theorem dJ9_max_7cf53_2 : decode cJ9_max_7cf53 2 = .ok (.if_icmp .lt 7, 3) := by decide +kernel
theorem dJ9_max_7cf53_5 : decode cJ9_max_7cf53 5 = .ok (.iload_n 0, 1) := by decide +kernel
theorem dJ9_max_7cf53_6 : decode cJ9_max_7cf53 6 = .ok (.goto 4, 3) := by decide +kernel
theorem dJ9_max_7cf53_9 : decode cJ9_max_7cf53 9 = .ok (.iload_n 1, 1) := by decide +kernel
theorem dJ9_max_7cf53_10 : decode cJ9_max_7cf53 10 = .ok (.ireturn, 1) := by decide +kernel
set_option maxRecDepth 20000 in
theorem ggJ0_length_8abf5_J0_coder_7d493 : GoodIn wsJ0_length_8abf5 wsJ0_coder_7d493 := goodIn_r _ [6, 7, 8] (by decide +kernel) (by decide +kernel)
set_option maxRecDepth 20000 in
theorem gJ0_length_8abf5_J0_coder_7d493 : GoodIn wsJ0_length_8abf5 (wsV RJ0 335 RJ0 yJ0_coder_7d493 wsJ0_coder_7d493) := goodIn_app (goodIn_of _ (by decide +kernel)) ggJ0_length_8abf5_J0_coder_7d493
theorem dJ0_length_8abf5_0 : decode cJ0_length_8abf5 0 = .ok (.aload_n 0, 1) := by decide +kernel
theorem dJ0_length_8abf5_1 : decode cJ0_length_8abf5 1 = .ok (.getfield 9, 3) := by decide +kernel
theorem dJ0_length_8abf5_4 : decode cJ0_length_8abf5 4 = .ok (.arraylength, 1) := by decide +kernel
theorem dJ0_length_8abf5_5 : decode cJ0_length_8abf5 5 = .ok (.aload_n 0, 1) := by decide +kernel
theorem dJ0_length_8abf5_6 : decode cJ0_length_8abf5 6 = .ok (.invokevirtual 335, 3) := by decide +kernel
theorem dJ0_length_8abf5_9 : decode cJ0_length_8abf5 9 = .ok (.ishr, 1) := by decide +kernel
theorem dJ0_length_8abf5_10 : decode cJ0_length_8abf5 10 = .ok (.ireturn, 1) := by decide +kernel
set_option maxRecDepth 20000 in
theorem ggJ0_charAt_5068e_J0_isLatin1_aae02 : GoodIn wsJ0_charAt_5068e wsJ0_isLatin1_aae02 := goodIn_r _ [6, 7, 8] (by decide +kernel) (by decide +kernel)
set_option maxRecDepth 20000 in
theorem gJ0_charAt_5068e_J0_isLatin1_aae02 : GoodIn wsJ0_charAt_5068e (wsV RJ0 492 RJ0 yJ0_isLatin1_aae02 wsJ0_isLatin1_aae02) := goodIn_app (goodIn_of _ (by decide +kernel)) ggJ0_charAt_5068e_J0_isLatin1_aae02
set_option maxRecDepth 20000 in
theorem ggJ0_charAt_5068e_J1_charAt_3b067 : GoodIn wsJ0_charAt_5068e wsJ1_charAt_3b067 := goodIn_r _ [12, 13, 14, 5, 15, 16, 17, 18, 19, 20] (by decide +kernel) (by decide +kernel)
set_option maxRecDepth 20000 in
theorem gJ0_charAt_5068e_J1_charAt_3b067 : GoodIn wsJ0_charAt_5068e (va_wsS RJ0 495 yJ1_charAt_3b067 wsJ1_charAt_3b067) := goodIn_app (goodIn_of _ (by decide +kernel)) ggJ0_charAt_5068e_J1_charAt_3b067
set_option maxRecDepth 20000 in
theorem ggJ0_charAt_5068e_J2_charAt_3b067 : GoodIn wsJ0_charAt_5068e wsJ2_charAt_3b067 := goodIn_r _ [24, 25, 26, 23, 27, 28, 29, 30, 31, 14, 5, 15, 16, 17, 18, 19, 20, 32, 33, 34, 35, 36, 37] (by decide +kernel) (by decide +kernel)
set_option maxRecDepth 20000 in
theorem gJ0_charAt_5068e_J2_charAt_3b067 : GoodIn wsJ0_charAt_5068e (va_wsS RJ0 498 yJ2_charAt_3b067 wsJ2_charAt_3b067) := goodIn_app (goodIn_of _ (by decide +kernel)) ggJ0_charAt_5068e_J2_charAt_3b067
theorem dJ0_charAt_5068e_0 : decode cJ0_charAt_5068e 0 = .ok (.aload_n 0, 1) := by decide +kernel
theorem dJ0_charAt_5068e_1 : decode cJ0_charAt_5068e 1 = .ok (.invokevirtual 492, 3) := by decide +kernel
theorem dJ0_charAt_5068e_4 : decode cJ0_charAt_5068e 4 = .ok (.ifCond .eq 12, 3) := by decide +kernel
theorem dJ0_charAt_5068e_7 : decode cJ0_charAt_5068e 7 = .ok (.aload_n 0, 1) := by decide +kernel
theorem dJ0_charAt_5068e_8 : decode cJ0_charAt_5068e 8 = .ok (.getfield 9, 3) := by decide +kernel
theorem dJ0_charAt_5068e_11 : decode cJ0_charAt_5068e 11 = .ok (.iload_n 1, 1) := by decide +kernel
theorem dJ0_charAt_5068e_12 : decode cJ0_charAt_5068e 12 = .ok (.invokestatic 495, 3) := by decide +kernel
theorem dJ0_charAt_5068e_15 : decode cJ0_charAt_5068e 15 = .ok (.ireturn, 1) := by decide +kernel
theorem dJ0_charAt_5068e_16 : decode cJ0_charAt_5068e 16 = .ok (.aload_n 0, 1) := by decide +kernel
theorem dJ0_charAt_5068e_17 : decode cJ0_charAt_5068e 17 = .ok (.getfield 9, 3) := by decide +kernel
theorem dJ0_charAt_5068e_20 : decode cJ0_charAt_5068e 20 = .ok (.iload_n 1, 1) := by decide +kernel
theorem dJ0_charAt_5068e_21 : decode cJ0_charAt_5068e 21 = .ok (.invokestatic 498, 3) := by decide +kernel
theorem dJ0_charAt_5068e_24 : decode cJ0_charAt_5068e 24 = .ok (.ireturn, 1) := by decide +kernel
theorem dJ0_coder_7d493_0 : decode cJ0_coder_7d493 0 = .ok (.getstatic 38, 3) := by decide +kernel
theorem dJ0_coder_7d493_3 : decode cJ0_coder_7d493 3 = .ok (.ifCond .eq 10, 3) := by decide +kernel
theorem dJ0_coder_7d493_6 : decode cJ0_coder_7d493 6 = .ok (.aload_n 0, 1) := by decide +kernel
theorem dJ0_coder_7d493_7 : decode cJ0_coder_7d493 7 = .ok (.getfield 15, 3) := by decide +kernel
theorem dJ0_coder_7d493_10 : decode cJ0_coder_7d493 10 = .ok (.goto 4, 3) := by decide +kernel
theorem dJ0_coder_7d493_13 : decode cJ0_coder_7d493 13 = .ok (.iconst 1, 1) := by decide +kernel
theorem dJ0_coder_7d493_14 : decode cJ0_coder_7d493 14 = .ok (.ireturn, 1) := by decide +kernel
theorem dJ0_isLatin1_aae02_0 : decode cJ0_isLatin1_aae02 0 = .ok (.getstatic 38, 3) := by decide +kernel
theorem dJ0_isLatin1_aae02_3 : decode cJ0_isLatin1_aae02 3 = .ok (.ifCond .eq 14, 3) := by decide +kernel
theorem dJ0_isLatin1_aae02_6 : decode cJ0_isLatin1_aae02 6 = .ok (.aload_n 0, 1) := by decide +kernel
theorem dJ0_isLatin1_aae02_7 : decode cJ0_isLatin1_aae02 7 = .ok (.getfield 15, 3) := by decide +kernel
theorem dJ0_isLatin1_aae02_10 : decode cJ0_isLatin1_aae02 10 = .ok (.ifCond .ne 7, 3) := by decide +kernel
theorem dJ0_isLatin1_aae02_13 : decode cJ0_isLatin1_aae02 13 = .ok (.iconst 1, 1) := by decide +kernel
theorem dJ0_isLatin1_aae02_14 : decode cJ0_isLatin1_aae02 14 = .ok (.goto 4, 3) := by decide +kernel
theorem dJ0_isLatin1_aae02_17 : decode cJ0_isLatin1_aae02 17 = .ok (.iconst 0, 1) := by decide +kernel
theorem dJ0_isLatin1_aae02_18 : decode cJ0_isLatin1_aae02 18 = .ok (.ireturn, 1) := by decide +kernel
set_option maxRecDepth 20000 in
theorem ggJ0_checkIndex_df160_J3_checkIndex_8e157 : GoodIn wsJ0_checkIndex_df160 wsJ3_checkIndex_8e157 := goodIn_r _ [5] (by decide +kernel) (by decide +kernel)
set_option maxRecDepth 20000 in
theorem gJ0_checkIndex_df160_J3_checkIndex_8e157 : GoodIn wsJ0_checkIndex_df160 (va_wsS RJ0 1059 yJ3_checkIndex_8e157 wsJ3_checkIndex_8e157) := goodIn_app (goodIn_of _ (by decide +kernel)) ggJ0_checkIndex_df160_J3_checkIndex_8e157
theorem dJ0_checkIndex_df160_0 : decode cJ0_checkIndex_df160 0 = .ok (.iload_n 0, 1) := by decide +kernel
theorem dJ0_checkIndex_df160_1 : decode cJ0_checkIndex_df160 1 = .ok (.iload_n 1, 1) := by decide +kernel
theorem dJ0_checkIndex_df160_2 : decode cJ0_checkIndex_df160 2 = .ok (.getstatic 1053, 3) := by decide +kernel
theorem dJ0_checkIndex_df160_5 : decode cJ0_checkIndex_df160 5 = .ok (.invokestatic 1059, 3) := by decide +kernel
theorem dJ0_checkIndex_df160_8 : decode cJ0_checkIndex_df160 8 = .ok (.pop, 1) := by decide +kernel
theorem dJ0_checkIndex_df160_9 : decode cJ0_checkIndex_df160 9 = .ok (.return_, 1) := by decide +kernel
set_option maxRecDepth 20000 in
theorem ggJ1_charAt_3b067_J0_checkIndex_df160 : GoodIn wsJ1_charAt_3b067 wsJ0_checkIndex_df160 := goodIn_r _ [4, 5, 6, 7, 8, 9] (by decide +kernel) (by decide +kernel)
set_option maxRecDepth 20000 in
theorem gJ1_charAt_3b067_J0_checkIndex_df160 : GoodIn wsJ1_charAt_3b067 (va_wsS RJ1 9 yJ0_checkIndex_df160 wsJ0_checkIndex_df160) := goodIn_app (goodIn_of _ (by decide +kernel)) ggJ1_charAt_3b067_J0_checkIndex_df160
theorem dJ1_charAt_3b067_0 : decode cJ1_charAt_3b067 0 = .ok (.iload_n 1, 1) := by decide +kernel
theorem dJ1_charAt_3b067_1 : decode cJ1_charAt_3b067 1 = .ok (.aload_n 0, 1) := by decide +kernel
theorem dJ1_charAt_3b067_2 : decode cJ1_charAt_3b067 2 = .ok (.arraylength, 1) := by decide +kernel
theorem dJ1_charAt_3b067_3 : decode cJ1_charAt_3b067 3 = .ok (.invokestatic 9, 3) := by decide +kernel
theorem dJ1_charAt_3b067_6 : decode cJ1_charAt_3b067 6 = .ok (.aload_n 0, 1) := by decide +kernel
theorem dJ1_charAt_3b067_7 : decode cJ1_charAt_3b067 7 = .ok (.iload_n 1, 1) := by decide +kernel
theorem dJ1_charAt_3b067_8 : decode cJ1_charAt_3b067 8 = .ok (.baload, 1) := by decide +kernel
theorem dJ1_charAt_3b067_9 : decode cJ1_charAt_3b067 9 = .ok (.sipush 255, 3) := by decide +kernel
theorem dJ1_charAt_3b067_12 : decode cJ1_charAt_3b067 12 = .ok (.iand, 1) := by decide +kernel
theorem dJ1_charAt_3b067_13 : decode cJ1_charAt_3b067 13 = .ok (.i2c, 1) := by decide +kernel
theorem dJ1_charAt_3b067_14 : decode cJ1_charAt_3b067 14 = .ok (.ireturn, 1) := by decide +kernel
set_option maxRecDepth 20000 in
theorem ggJ2_getChar_3b067_J2_length_9d52b : GoodIn wsJ2_getChar_3b067 wsJ2_length_9d52b := goodIn_r _ [7] (by decide +kernel) (by decide +kernel)
set_option maxRecDepth 20000 in
theorem gJ2_getChar_3b067_J2_length_9d52b : GoodIn wsJ2_getChar_3b067 (va_wsS RJ2 48 yJ2_length_9d52b wsJ2_length_9d52b) := goodIn_app (goodIn_of _ (by decide +kernel)) ggJ2_getChar_3b067_J2_length_9d52b
theorem dJ2_getChar_3b067_0 : decode cJ2_getChar_3b067 0 = .ok (.getstatic 44, 3) := by decide +kernel
theorem dJ2_getChar_3b067_3 : decode cJ2_getChar_3b067 3 = .ok (.ifCond .ne 25, 3) := by decide +kernel
theorem dJ2_getChar_3b067_6 : decode cJ2_getChar_3b067 6 = .ok (.iload_n 1, 1) := by decide +kernel
theorem dJ2_getChar_3b067_7 : decode cJ2_getChar_3b067 7 = .ok (.ifCond .lt 11, 3) := by decide +kernel
theorem dJ2_getChar_3b067_10 : decode cJ2_getChar_3b067 10 = .ok (.iload_n 1, 1) := by decide +kernel
theorem dJ2_getChar_3b067_11 : decode cJ2_getChar_3b067 11 = .ok (.aload_n 0, 1) := by decide +kernel
theorem dJ2_getChar_3b067_12 : decode cJ2_getChar_3b067 12 = .ok (.invokestatic 48, 3) := by decide +kernel
theorem dJ2_getChar_3b067_15 : decode cJ2_getChar_3b067 15 = .ok (.if_icmp .lt 13, 3) := by decide +kernel
theorem dJ2_getChar_3b067_18 : decode cJ2_getChar_3b067 18 = .ok (.new 52, 3) := by decide +kernel
theorem dJ2_getChar_3b067_21 : decode cJ2_getChar_3b067 21 = .ok (.dup, 1) := by decide +kernel
theorem dJ2_getChar_3b067_22 : decode cJ2_getChar_3b067 22 = .ok (.ldc 54, 2) := by decide +kernel
theorem dJ2_getChar_3b067_24 : decode cJ2_getChar_3b067 24 = .ok (.invokespecial 56, 3) := by decide +kernel
theorem dJ2_getChar_3b067_27 : decode cJ2_getChar_3b067 27 = .ok (.athrow, 1) := by decide +kernel
theorem dJ2_getChar_3b067_28 : decode cJ2_getChar_3b067 28 = .ok (.iload_n 1, 1) := by decide +kernel
theorem dJ2_getChar_3b067_29 : decode cJ2_getChar_3b067 29 = .ok (.iconst 1, 1) := by decide +kernel
theorem dJ2_getChar_3b067_30 : decode cJ2_getChar_3b067 30 = .ok (.ishl, 1) := by decide +kernel
theorem dJ2_getChar_3b067_31 : decode cJ2_getChar_3b067 31 = .ok (.istore_n 1, 1) := by decide +kernel
theorem dJ2_getChar_3b067_32 : decode cJ2_getChar_3b067 32 = .ok (.aload_n 0, 1) := by decide +kernel
theorem dJ2_getChar_3b067_33 : decode cJ2_getChar_3b067 33 = .ok (.iload_n 1, 1) := by decide +kernel
theorem dJ2_getChar_3b067_34 : decode cJ2_getChar_3b067 34 = .ok (.iinc 1 1, 3) := by decide +kernel
theorem dJ2_getChar_3b067_37 : decode cJ2_getChar_3b067 37 = .ok (.baload, 1) := by decide +kernel
theorem dJ2_getChar_3b067_38 : decode cJ2_getChar_3b067 38 = .ok (.sipush 255, 3) := by decide +kernel
theorem dJ2_getChar_3b067_41 : decode cJ2_getChar_3b067 41 = .ok (.iand, 1) := by decide +kernel
theorem dJ2_getChar_3b067_42 : decode cJ2_getChar_3b067 42 = .ok (.getstatic 59, 3) := by decide +kernel
theorem dJ2_getChar_3b067_45 : decode cJ2_getChar_3b067 45 = .ok (.ishl, 1) := by decide +kernel
theorem dJ2_getChar_3b067_46 : decode cJ2_getChar_3b067 46 = .ok (.aload_n 0, 1) := by decide +kernel
theorem dJ2_getChar_3b067_47 : decode cJ2_getChar_3b067 47 = .ok (.iload_n 1, 1) := by decide +kernel
theorem dJ2_getChar_3b067_48 : decode cJ2_getChar_3b067 48 = .ok (.baload, 1) := by decide +kernel
theorem dJ2_getChar_3b067_49 : decode cJ2_getChar_3b067 49 = .ok (.sipush 255, 3) := by decide +kernel
theorem dJ2_getChar_3b067_52 : decode cJ2_getChar_3b067 52 = .ok (.iand, 1) := by decide +kernel
theorem dJ2_getChar_3b067_53 : decode cJ2_getChar_3b067 53 = .ok (.getstatic 63, 3) := by decide +kernel
theorem dJ2_getChar_3b067_56 : decode cJ2_getChar_3b067 56 = .ok (.ishl, 1) := by decide +kernel
theorem dJ2_getChar_3b067_57 : decode cJ2_getChar_3b067 57 = .ok (.ior, 1) := by decide +kernel
theorem dJ2_getChar_3b067_58 : decode cJ2_getChar_3b067 58 = .ok (.i2c, 1) := by decide +kernel
theorem dJ2_getChar_3b067_59 : decode cJ2_getChar_3b067 59 = .ok (.ireturn, 1) := by decide +kernel
theorem dJ2_length_9d52b_0 : decode cJ2_length_9d52b 0 = .ok (.aload_n 0, 1) := by decide +kernel
theorem dJ2_length_9d52b_1 : decode cJ2_length_9d52b 1 = .ok (.arraylength, 1) := by decide +kernel
theorem dJ2_length_9d52b_2 : decode cJ2_length_9d52b 2 = .ok (.iconst 1, 1) := by decide +kernel
theorem dJ2_length_9d52b_3 : decode cJ2_length_9d52b 3 = .ok (.ishr, 1) := by decide +kernel
theorem dJ2_length_9d52b_4 : decode cJ2_length_9d52b 4 = .ok (.ireturn, 1) := by decide +kernel
set_option maxRecDepth 20000 in
theorem ggJ2_charAt_3b067_J2_checkIndex_2214a : GoodIn wsJ2_charAt_3b067 wsJ2_checkIndex_2214a := goodIn_r _ [4, 5, 6, 3, 7, 8, 9, 10, 11, 12, 13, 14, 15, 16] (by decide +kernel) (by decide +kernel)
set_option maxRecDepth 20000 in
theorem gJ2_charAt_3b067_J2_checkIndex_2214a : GoodIn wsJ2_charAt_3b067 (va_wsS RJ2 67 yJ2_checkIndex_2214a wsJ2_checkIndex_2214a) := goodIn_app (goodIn_of _ (by decide +kernel)) ggJ2_charAt_3b067_J2_checkIndex_2214a
set_option maxRecDepth 20000 in
theorem ggJ2_charAt_3b067_J2_getChar_3b067 : GoodIn wsJ2_charAt_3b067 wsJ2_getChar_3b067 := goodIn_r _ [19, 20, 21, 22, 5, 6, 3, 7] (by decide +kernel) (by decide +kernel)
set_option maxRecDepth 20000 in
theorem gJ2_charAt_3b067_J2_getChar_3b067 : GoodIn wsJ2_charAt_3b067 (va_wsS RJ2 71 yJ2_getChar_3b067 wsJ2_getChar_3b067) := goodIn_app (goodIn_of _ (by decide +kernel)) ggJ2_charAt_3b067_J2_getChar_3b067
theorem dJ2_charAt_3b067_0 : decode cJ2_charAt_3b067 0 = .ok (.iload_n 1, 1) := by decide +kernel
theorem dJ2_charAt_3b067_1 : decode cJ2_charAt_3b067 1 = .ok (.aload_n 0, 1) := by decide +kernel
theorem dJ2_charAt_3b067_2 : decode cJ2_charAt_3b067 2 = .ok (.invokestatic 67, 3) := by decide +kernel
theorem dJ2_charAt_3b067_5 : decode cJ2_charAt_3b067 5 = .ok (.aload_n 0, 1) := by decide +kernel
theorem dJ2_charAt_3b067_6 : decode cJ2_charAt_3b067 6 = .ok (.iload_n 1, 1) := by decide +kernel
theorem dJ2_charAt_3b067_7 : decode cJ2_charAt_3b067 7 = .ok (.invokestatic 71, 3) := by decide +kernel
theorem dJ2_charAt_3b067_10 : decode cJ2_charAt_3b067 10 = .ok (.ireturn, 1) := by decide +kernel
set_option maxRecDepth 20000 in
theorem ggJ2_checkIndex_2214a_J2_length_9d52b : GoodIn wsJ2_checkIndex_2214a wsJ2_length_9d52b := goodIn_r _ [4] (by decide +kernel) (by decide +kernel)
set_option maxRecDepth 20000 in
theorem gJ2_checkIndex_2214a_J2_length_9d52b : GoodIn wsJ2_checkIndex_2214a (va_wsS RJ2 48 yJ2_length_9d52b wsJ2_length_9d52b) := goodIn_app (goodIn_of _ (by decide +kernel)) ggJ2_checkIndex_2214a_J2_length_9d52b
set_option maxRecDepth 20000 in
theorem ggJ2_checkIndex_2214a_J0_checkIndex_df160 : GoodIn wsJ2_checkIndex_2214a wsJ0_checkIndex_df160 := goodIn_r _ [8, 9, 10, 11, 12, 13] (by decide +kernel) (by decide +kernel)
set_option maxRecDepth 20000 in
theorem gJ2_checkIndex_2214a_J0_checkIndex_df160 : GoodIn wsJ2_checkIndex_2214a (va_wsS RJ2 414 yJ0_checkIndex_df160 wsJ0_checkIndex_df160) := goodIn_app (goodIn_of _ (by decide +kernel)) ggJ2_checkIndex_2214a_J0_checkIndex_df160
theorem dJ2_checkIndex_2214a_0 : decode cJ2_checkIndex_2214a 0 = .ok (.iload_n 0, 1) := by decide +kernel
theorem dJ2_checkIndex_2214a_1 : decode cJ2_checkIndex_2214a 1 = .ok (.aload_n 1, 1) := by decide +kernel
theorem dJ2_checkIndex_2214a_2 : decode cJ2_checkIndex_2214a 2 = .ok (.invokestatic 48, 3) := by decide +kernel
theorem dJ2_checkIndex_2214a_5 : decode cJ2_checkIndex_2214a 5 = .ok (.invokestatic 414, 3) := by decide +kernel
theorem dJ2_checkIndex_2214a_8 : decode cJ2_checkIndex_2214a 8 = .ok (.return_, 1) := by decide +kernel
theorem dJ7_fill_53178_0 : decode cJ7_fill_53178 0 = .ok (.iconst 0, 1) := by decide +kernel
theorem dJ7_fill_53178_1 : decode cJ7_fill_53178 1 = .ok (.istore_n 2, 1) := by decide +kernel
theorem dJ7_fill_53178_2 : decode cJ7_fill_53178 2 = .ok (.aload_n 0, 1) := by decide +kernel
theorem dJ7_fill_53178_3 : decode cJ7_fill_53178 3 = .ok (.arraylength, 1) := by decide +kernel
theorem dJ7_fill_53178_4 : decode cJ7_fill_53178 4 = .ok (.istore_n 3, 1) := by decide +kernel
theorem dJ7_fill_53178_5 : decode cJ7_fill_53178 5 = .ok (.iload_n 2, 1) := by decide +kernel
theorem dJ7_fill_53178_6 : decode cJ7_fill_53178 6 = .ok (.iload_n 3, 1) := by decide +kernel
theorem dJ7_fill_53178_7 : decode cJ7_fill_53178 7 = .ok (.if_icmp .ge 13, 3) := by decide +kernel
theorem dJ7_fill_53178_10 : decode cJ7_fill_53178 10 = .ok (.aload_n 0, 1) := by decide +kernel
theorem dJ7_fill_53178_11 : decode cJ7_fill_53178 11 = .ok (.iload_n 2, 1) := by decide +kernel
theorem dJ7_fill_53178_12 : decode cJ7_fill_53178 12 = .ok (.iload_n 1, 1) := by decide +kernel
theorem dJ7_fill_53178_13 : decode cJ7_fill_53178 13 = .ok (.iastore, 1) := by decide +kernel
theorem dJ7_fill_53178_14 : decode cJ7_fill_53178 14 = .ok (.iinc 2 1, 3) := by decide +kernel
theorem dJ7_fill_53178_17 : decode cJ7_fill_53178 17 = .ok (.goto (-12), 3) := by decide +kernel
theorem dJ7_fill_53178_20 : decode cJ7_fill_53178 20 = .ok (.return_, 1) := by decide +kernel
theorem dJ3_checkIndex_8e157_0 : decode cJ3_checkIndex_8e157 0 = .ok (.iload_n 0, 1) := by decide +kernel
theorem dJ3_checkIndex_8e157_1 : decode cJ3_checkIndex_8e157 1 = .ok (.ifCond .lt 8, 3) := by decide +kernel
theorem dJ3_checkIndex_8e157_4 : decode cJ3_checkIndex_8e157 4 = .ok (.iload_n 0, 1) := by decide +kernel
theorem dJ3_checkIndex_8e157_5 : decode cJ3_checkIndex_8e157 5 = .ok (.iload_n 1, 1) := by decide +kernel
theorem dJ3_checkIndex_8e157_6 : decode cJ3_checkIndex_8e157 6 = .ok (.if_icmp .lt 10, 3) := by decide +kernel
theorem dJ3_checkIndex_8e157_9 : decode cJ3_checkIndex_8e157 9 = .ok (.aload_n 2, 1) := by decide +kernel
theorem dJ3_checkIndex_8e157_10 : decode cJ3_checkIndex_8e157 10 = .ok (.iload_n 0, 1) := by decide +kernel
theorem dJ3_checkIndex_8e157_11 : decode cJ3_checkIndex_8e157 11 = .ok (.iload_n 1, 1) := by decide +kernel
theorem dJ3_checkIndex_8e157_12 : decode cJ3_checkIndex_8e157 12 = .ok (.invokestatic 95, 3) := by decide +kernel
theorem dJ3_checkIndex_8e157_15 : decode cJ3_checkIndex_8e157 15 = .ok (.athrow, 1) := by decide +kernel
theorem dJ3_checkIndex_8e157_16 : decode cJ3_checkIndex_8e157 16 = .ok (.iload_n 0, 1) := by decide +kernel
theorem dJ3_checkIndex_8e157_17 : decode cJ3_checkIndex_8e157 17 = .ok (.ireturn, 1) := by decide +kernel
theorem dL_law_0 : decode cL_law 0 = .ok (.new 7, 3) := by decide +kernel
theorem dL_law_3 : decode cL_law 3 = .ok (.dup, 1) := by decide +kernel
theorem dL_law_4 : decode cL_law 4 = .ok (.invokespecial 9, 3) := by decide +kernel
theorem dL_law_7 : decode cL_law 7 = .ok (.astore_n 1, 1) := by decide +kernel
theorem dL_law_8 : decode cL_law 8 = .ok (.new 10, 3) := by decide +kernel
theorem dL_law_11 : decode cL_law 11 = .ok (.dup, 1) := by decide +kernel
theorem dL_law_12 : decode cL_law 12 = .ok (.invokespecial 12, 3) := by decide +kernel
theorem dL_law_15 : decode cL_law 15 = .ok (.astore_n 2, 1) := by decide +kernel
theorem dL_law_16 : decode cL_law 16 = .ok (.iconst 0, 1) := by decide +kernel
theorem dL_law_17 : decode cL_law 17 = .ok (.istore_n 3, 1) := by decide +kernel
theorem dL_law_18 : decode cL_law 18 = .ok (.iload_n 3, 1) := by decide +kernel
theorem dL_law_19 : decode cL_law 19 = .ok (.aload_n 0, 1) := by decide +kernel
theorem dL_law_20 : decode cL_law 20 = .ok (.arraylength, 1) := by decide +kernel
theorem dL_law_21 : decode cL_law 21 = .ok (.iconst 5, 1) := by decide +kernel
theorem dL_law_22 : decode cL_law 22 = .ok (.isub, 1) := by decide +kernel
theorem dL_law_23 : decode cL_law 23 = .ok (.if_icmp .gt 862, 3) := by decide +kernel
theorem dL_law_26 : decode cL_law 26 = .ok (.aload_n 0, 1) := by decide +kernel
theorem dL_law_27 : decode cL_law 27 = .ok (.iload_n 3, 1) := by decide +kernel
theorem dL_law_28 : decode cL_law 28 = .ok (.iaload, 1) := by decide +kernel
theorem dL_law_29 : decode cL_law 29 = .ok (.bipush 31, 2) := by decide +kernel
theorem dL_law_31 : decode cL_law 31 = .ok (.iand, 1) := by decide +kernel
theorem dL_law_32 : decode cL_law 32 = .ok (.tableswitch 847 0 24 #[116, 179, 192, 205, 218, 251, 284, 317, 350, 383, 416, 439, 472, 505, 548, 561, 630, 643, 666, 689, 722, 765, 798, 811, 824], 116) := by decide +kernel
theorem dL_law_148 : decode cL_law 148 = .ok (.aload_n 1, 1) := by decide +kernel
theorem dL_law_149 : decode cL_law 149 = .ok (.aload_n 0, 1) := by decide +kernel
theorem dL_law_150 : decode cL_law 150 = .ok (.iload_n 3, 1) := by decide +kernel
theorem dL_law_151 : decode cL_law 151 = .ok (.iconst 1, 1) := by decide +kernel
theorem dL_law_152 : decode cL_law 152 = .ok (.iadd, 1) := by decide +kernel
theorem dL_law_153 : decode cL_law 153 = .ok (.iaload, 1) := by decide +kernel
theorem dL_law_154 : decode cL_law 154 = .ok (.aload_n 0, 1) := by decide +kernel
theorem dL_law_155 : decode cL_law 155 = .ok (.iload_n 3, 1) := by decide +kernel
theorem dL_law_156 : decode cL_law 156 = .ok (.iconst 2, 1) := by decide +kernel
theorem dL_law_157 : decode cL_law 157 = .ok (.iadd, 1) := by decide +kernel
theorem dL_law_158 : decode cL_law 158 = .ok (.iaload, 1) := by decide +kernel
theorem dL_law_159 : decode cL_law 159 = .ok (.i2l, 1) := by decide +kernel
theorem dL_law_160 : decode cL_law 160 = .ok (.bipush 32, 2) := by decide +kernel
theorem dL_law_162 : decode cL_law 162 = .ok (.lshl, 1) := by decide +kernel
theorem dL_law_163 : decode cL_law 163 = .ok (.aload_n 0, 1) := by decide +kernel
theorem dL_law_164 : decode cL_law 164 = .ok (.iload_n 3, 1) := by decide +kernel
theorem dL_law_165 : decode cL_law 165 = .ok (.iconst 3, 1) := by decide +kernel
theorem dL_law_166 : decode cL_law 166 = .ok (.iadd, 1) := by decide +kernel
theorem dL_law_167 : decode cL_law 167 = .ok (.iaload, 1) := by decide +kernel
theorem dL_law_168 : decode cL_law 168 = .ok (.i2l, 1) := by decide +kernel
theorem dL_law_169 : decode cL_law 169 = .ok (.ldc2_w 13, 3) := by decide +kernel
theorem dL_law_172 : decode cL_law 172 = .ok (.land, 1) := by decide +kernel
theorem dL_law_173 : decode cL_law 173 = .ok (.lor, 1) := by decide +kernel
theorem dL_law_174 : decode cL_law 174 = .ok (.invokevirtual 15, 3) := by decide +kernel
theorem dL_law_177 : decode cL_law 177 = .ok (.aload_n 2, 1) := by decide +kernel
theorem dL_law_178 : decode cL_law 178 = .ok (.aload_n 0, 1) := by decide +kernel
theorem dL_law_179 : decode cL_law 179 = .ok (.iload_n 3, 1) := by decide +kernel
theorem dL_law_180 : decode cL_law 180 = .ok (.iconst 1, 1) := by decide +kernel
theorem dL_law_181 : decode cL_law 181 = .ok (.iadd, 1) := by decide +kernel
theorem dL_law_182 : decode cL_law 182 = .ok (.iaload, 1) := by decide +kernel
theorem dL_law_183 : decode cL_law 183 = .ok (.aload_n 0, 1) := by decide +kernel
theorem dL_law_184 : decode cL_law 184 = .ok (.iload_n 3, 1) := by decide +kernel
theorem dL_law_185 : decode cL_law 185 = .ok (.iconst 2, 1) := by decide +kernel
theorem dL_law_186 : decode cL_law 186 = .ok (.iadd, 1) := by decide +kernel
theorem dL_law_187 : decode cL_law 187 = .ok (.iaload, 1) := by decide +kernel
theorem dL_law_188 : decode cL_law 188 = .ok (.i2l, 1) := by decide +kernel
theorem dL_law_189 : decode cL_law 189 = .ok (.bipush 32, 2) := by decide +kernel
theorem dL_law_191 : decode cL_law 191 = .ok (.lshl, 1) := by decide +kernel
theorem dL_law_192 : decode cL_law 192 = .ok (.aload_n 0, 1) := by decide +kernel
theorem dL_law_193 : decode cL_law 193 = .ok (.iload_n 3, 1) := by decide +kernel
theorem dL_law_194 : decode cL_law 194 = .ok (.iconst 3, 1) := by decide +kernel
theorem dL_law_195 : decode cL_law 195 = .ok (.iadd, 1) := by decide +kernel
theorem dL_law_196 : decode cL_law 196 = .ok (.iaload, 1) := by decide +kernel
theorem dL_law_197 : decode cL_law 197 = .ok (.i2l, 1) := by decide +kernel
theorem dL_law_198 : decode cL_law 198 = .ok (.ldc2_w 13, 3) := by decide +kernel
theorem dL_law_201 : decode cL_law 201 = .ok (.land, 1) := by decide +kernel
theorem dL_law_202 : decode cL_law 202 = .ok (.lor, 1) := by decide +kernel
theorem dL_law_203 : decode cL_law 203 = .ok (.invokevirtual 19, 3) := by decide +kernel
theorem dL_law_206 : decode cL_law 206 = .ok (.if_icmp .eq 673, 3) := by decide +kernel
theorem dL_law_209 : decode cL_law 209 = .ok (.iconst 0, 1) := by decide +kernel
theorem dL_law_210 : decode cL_law 210 = .ok (.ireturn, 1) := by decide +kernel
theorem dL_law_211 : decode cL_law 211 = .ok (.aload_n 1, 1) := by decide +kernel
theorem dL_law_212 : decode cL_law 212 = .ok (.invokevirtual 20, 3) := by decide +kernel
theorem dL_law_215 : decode cL_law 215 = .ok (.aload_n 2, 1) := by decide +kernel
theorem dL_law_216 : decode cL_law 216 = .ok (.invokevirtual 24, 3) := by decide +kernel
theorem dL_law_219 : decode cL_law 219 = .ok (.if_icmp .eq 660, 3) := by decide +kernel
theorem dL_law_222 : decode cL_law 222 = .ok (.iconst 0, 1) := by decide +kernel
theorem dL_law_223 : decode cL_law 223 = .ok (.ireturn, 1) := by decide +kernel
theorem dL_law_224 : decode cL_law 224 = .ok (.aload_n 1, 1) := by decide +kernel
theorem dL_law_225 : decode cL_law 225 = .ok (.invokevirtual 25, 3) := by decide +kernel
theorem dL_law_228 : decode cL_law 228 = .ok (.aload_n 2, 1) := by decide +kernel
theorem dL_law_229 : decode cL_law 229 = .ok (.invokevirtual 28, 3) := by decide +kernel
theorem dL_law_232 : decode cL_law 232 = .ok (.if_icmp .eq 647, 3) := by decide +kernel
theorem dL_law_235 : decode cL_law 235 = .ok (.iconst 0, 1) := by decide +kernel
theorem dL_law_236 : decode cL_law 236 = .ok (.ireturn, 1) := by decide +kernel
theorem dL_law_237 : decode cL_law 237 = .ok (.aload_n 1, 1) := by decide +kernel
theorem dL_law_238 : decode cL_law 238 = .ok (.invokevirtual 29, 3) := by decide +kernel
theorem dL_law_241 : decode cL_law 241 = .ok (.aload_n 2, 1) := by decide +kernel
theorem dL_law_242 : decode cL_law 242 = .ok (.invokevirtual 32, 3) := by decide +kernel
theorem dL_law_245 : decode cL_law 245 = .ok (.if_icmp .eq 634, 3) := by decide +kernel
theorem dL_law_248 : decode cL_law 248 = .ok (.iconst 0, 1) := by decide +kernel
theorem dL_law_249 : decode cL_law 249 = .ok (.ireturn, 1) := by decide +kernel
theorem dL_law_250 : decode cL_law 250 = .ok (.aload_n 1, 1) := by decide +kernel
theorem dL_law_251 : decode cL_law 251 = .ok (.aload_n 0, 1) := by decide +kernel
theorem dL_law_252 : decode cL_law 252 = .ok (.iload_n 3, 1) := by decide +kernel
theorem dL_law_253 : decode cL_law 253 = .ok (.iconst 1, 1) := by decide +kernel
theorem dL_law_254 : decode cL_law 254 = .ok (.iadd, 1) := by decide +kernel
theorem dL_law_255 : decode cL_law 255 = .ok (.iaload, 1) := by decide +kernel
theorem dL_law_256 : decode cL_law 256 = .ok (.aload_n 0, 1) := by decide +kernel
theorem dL_law_257 : decode cL_law 257 = .ok (.iload_n 3, 1) := by decide +kernel
theorem dL_law_258 : decode cL_law 258 = .ok (.iconst 2, 1) := by decide +kernel
theorem dL_law_259 : decode cL_law 259 = .ok (.iadd, 1) := by decide +kernel
theorem dL_law_260 : decode cL_law 260 = .ok (.iaload, 1) := by decide +kernel
theorem dL_law_261 : decode cL_law 261 = .ok (.invokevirtual 33, 3) := by decide +kernel
theorem dL_law_264 : decode cL_law 264 = .ok (.aload_n 2, 1) := by decide +kernel
theorem dL_law_265 : decode cL_law 265 = .ok (.aload_n 0, 1) := by decide +kernel
theorem dL_law_266 : decode cL_law 266 = .ok (.iload_n 3, 1) := by decide +kernel
theorem dL_law_267 : decode cL_law 267 = .ok (.iconst 1, 1) := by decide +kernel
theorem dL_law_268 : decode cL_law 268 = .ok (.iadd, 1) := by decide +kernel
theorem dL_law_269 : decode cL_law 269 = .ok (.iaload, 1) := by decide +kernel
theorem dL_law_270 : decode cL_law 270 = .ok (.aload_n 0, 1) := by decide +kernel
theorem dL_law_271 : decode cL_law 271 = .ok (.iload_n 3, 1) := by decide +kernel
theorem dL_law_272 : decode cL_law 272 = .ok (.iconst 2, 1) := by decide +kernel
theorem dL_law_273 : decode cL_law 273 = .ok (.iadd, 1) := by decide +kernel
theorem dL_law_274 : decode cL_law 274 = .ok (.iaload, 1) := by decide +kernel
theorem dL_law_275 : decode cL_law 275 = .ok (.invokevirtual 37, 3) := by decide +kernel
theorem dL_law_278 : decode cL_law 278 = .ok (.if_icmp .eq 601, 3) := by decide +kernel
theorem dL_law_281 : decode cL_law 281 = .ok (.iconst 0, 1) := by decide +kernel
theorem dL_law_282 : decode cL_law 282 = .ok (.ireturn, 1) := by decide +kernel
theorem dL_law_283 : decode cL_law 283 = .ok (.aload_n 1, 1) := by decide +kernel
theorem dL_law_284 : decode cL_law 284 = .ok (.aload_n 0, 1) := by decide +kernel
theorem dL_law_285 : decode cL_law 285 = .ok (.iload_n 3, 1) := by decide +kernel
theorem dL_law_286 : decode cL_law 286 = .ok (.iconst 1, 1) := by decide +kernel
theorem dL_law_287 : decode cL_law 287 = .ok (.iadd, 1) := by decide +kernel
theorem dL_law_288 : decode cL_law 288 = .ok (.iaload, 1) := by decide +kernel
theorem dL_law_289 : decode cL_law 289 = .ok (.aload_n 0, 1) := by decide +kernel
theorem dL_law_290 : decode cL_law 290 = .ok (.iload_n 3, 1) := by decide +kernel
theorem dL_law_291 : decode cL_law 291 = .ok (.iconst 2, 1) := by decide +kernel
theorem dL_law_292 : decode cL_law 292 = .ok (.iadd, 1) := by decide +kernel
theorem dL_law_293 : decode cL_law 293 = .ok (.iaload, 1) := by decide +kernel
theorem dL_law_294 : decode cL_law 294 = .ok (.invokevirtual 38, 3) := by decide +kernel
theorem dL_law_297 : decode cL_law 297 = .ok (.aload_n 2, 1) := by decide +kernel
theorem dL_law_298 : decode cL_law 298 = .ok (.aload_n 0, 1) := by decide +kernel
theorem dL_law_299 : decode cL_law 299 = .ok (.iload_n 3, 1) := by decide +kernel
theorem dL_law_300 : decode cL_law 300 = .ok (.iconst 1, 1) := by decide +kernel
theorem dL_law_301 : decode cL_law 301 = .ok (.iadd, 1) := by decide +kernel
theorem dL_law_302 : decode cL_law 302 = .ok (.iaload, 1) := by decide +kernel
theorem dL_law_303 : decode cL_law 303 = .ok (.aload_n 0, 1) := by decide +kernel
theorem dL_law_304 : decode cL_law 304 = .ok (.iload_n 3, 1) := by decide +kernel
theorem dL_law_305 : decode cL_law 305 = .ok (.iconst 2, 1) := by decide +kernel
theorem dL_law_306 : decode cL_law 306 = .ok (.iadd, 1) := by decide +kernel
theorem dL_law_307 : decode cL_law 307 = .ok (.iaload, 1) := by decide +kernel
theorem dL_law_308 : decode cL_law 308 = .ok (.invokevirtual 41, 3) := by decide +kernel
theorem dL_law_311 : decode cL_law 311 = .ok (.if_icmp .eq 568, 3) := by decide +kernel
theorem dL_law_314 : decode cL_law 314 = .ok (.iconst 0, 1) := by decide +kernel
theorem dL_law_315 : decode cL_law 315 = .ok (.ireturn, 1) := by decide +kernel
theorem dL_law_316 : decode cL_law 316 = .ok (.aload_n 1, 1) := by decide +kernel
theorem dL_law_317 : decode cL_law 317 = .ok (.aload_n 0, 1) := by decide +kernel
theorem dL_law_318 : decode cL_law 318 = .ok (.iload_n 3, 1) := by decide +kernel
theorem dL_law_319 : decode cL_law 319 = .ok (.iconst 1, 1) := by decide +kernel
theorem dL_law_320 : decode cL_law 320 = .ok (.iadd, 1) := by decide +kernel
theorem dL_law_321 : decode cL_law 321 = .ok (.iaload, 1) := by decide +kernel
theorem dL_law_322 : decode cL_law 322 = .ok (.aload_n 0, 1) := by decide +kernel
theorem dL_law_323 : decode cL_law 323 = .ok (.iload_n 3, 1) := by decide +kernel
theorem dL_law_324 : decode cL_law 324 = .ok (.iconst 2, 1) := by decide +kernel
theorem dL_law_325 : decode cL_law 325 = .ok (.iadd, 1) := by decide +kernel
theorem dL_law_326 : decode cL_law 326 = .ok (.iaload, 1) := by decide +kernel
theorem dL_law_327 : decode cL_law 327 = .ok (.invokevirtual 42, 3) := by decide +kernel
theorem dL_law_330 : decode cL_law 330 = .ok (.aload_n 2, 1) := by decide +kernel
theorem dL_law_331 : decode cL_law 331 = .ok (.aload_n 0, 1) := by decide +kernel
theorem dL_law_332 : decode cL_law 332 = .ok (.iload_n 3, 1) := by decide +kernel
theorem dL_law_333 : decode cL_law 333 = .ok (.iconst 1, 1) := by decide +kernel
theorem dL_law_334 : decode cL_law 334 = .ok (.iadd, 1) := by decide +kernel
theorem dL_law_335 : decode cL_law 335 = .ok (.iaload, 1) := by decide +kernel
theorem dL_law_336 : decode cL_law 336 = .ok (.aload_n 0, 1) := by decide +kernel
theorem dL_law_337 : decode cL_law 337 = .ok (.iload_n 3, 1) := by decide +kernel
theorem dL_law_338 : decode cL_law 338 = .ok (.iconst 2, 1) := by decide +kernel
theorem dL_law_339 : decode cL_law 339 = .ok (.iadd, 1) := by decide +kernel
theorem dL_law_340 : decode cL_law 340 = .ok (.iaload, 1) := by decide +kernel
theorem dL_law_341 : decode cL_law 341 = .ok (.invokevirtual 45, 3) := by decide +kernel
theorem dL_law_344 : decode cL_law 344 = .ok (.if_icmp .eq 535, 3) := by decide +kernel
theorem dL_law_347 : decode cL_law 347 = .ok (.iconst 0, 1) := by decide +kernel
theorem dL_law_348 : decode cL_law 348 = .ok (.ireturn, 1) := by decide +kernel
theorem dL_law_349 : decode cL_law 349 = .ok (.aload_n 1, 1) := by decide +kernel
theorem dL_law_350 : decode cL_law 350 = .ok (.aload_n 0, 1) := by decide +kernel
theorem dL_law_351 : decode cL_law 351 = .ok (.iload_n 3, 1) := by decide +kernel
theorem dL_law_352 : decode cL_law 352 = .ok (.iconst 1, 1) := by decide +kernel
theorem dL_law_353 : decode cL_law 353 = .ok (.iadd, 1) := by decide +kernel
theorem dL_law_354 : decode cL_law 354 = .ok (.iaload, 1) := by decide +kernel
theorem dL_law_355 : decode cL_law 355 = .ok (.aload_n 0, 1) := by decide +kernel
theorem dL_law_356 : decode cL_law 356 = .ok (.iload_n 3, 1) := by decide +kernel
theorem dL_law_357 : decode cL_law 357 = .ok (.iconst 2, 1) := by decide +kernel
theorem dL_law_358 : decode cL_law 358 = .ok (.iadd, 1) := by decide +kernel
theorem dL_law_359 : decode cL_law 359 = .ok (.iaload, 1) := by decide +kernel
theorem dL_law_360 : decode cL_law 360 = .ok (.invokevirtual 46, 3) := by decide +kernel
theorem dL_law_363 : decode cL_law 363 = .ok (.aload_n 2, 1) := by decide +kernel
theorem dL_law_364 : decode cL_law 364 = .ok (.aload_n 0, 1) := by decide +kernel
theorem dL_law_365 : decode cL_law 365 = .ok (.iload_n 3, 1) := by decide +kernel
theorem dL_law_366 : decode cL_law 366 = .ok (.iconst 1, 1) := by decide +kernel
theorem dL_law_367 : decode cL_law 367 = .ok (.iadd, 1) := by decide +kernel
theorem dL_law_368 : decode cL_law 368 = .ok (.iaload, 1) := by decide +kernel
theorem dL_law_369 : decode cL_law 369 = .ok (.aload_n 0, 1) := by decide +kernel
theorem dL_law_370 : decode cL_law 370 = .ok (.iload_n 3, 1) := by decide +kernel
theorem dL_law_371 : decode cL_law 371 = .ok (.iconst 2, 1) := by decide +kernel
theorem dL_law_372 : decode cL_law 372 = .ok (.iadd, 1) := by decide +kernel
theorem dL_law_373 : decode cL_law 373 = .ok (.iaload, 1) := by decide +kernel
theorem dL_law_374 : decode cL_law 374 = .ok (.invokevirtual 49, 3) := by decide +kernel
theorem dL_law_377 : decode cL_law 377 = .ok (.if_icmp .eq 502, 3) := by decide +kernel
theorem dL_law_380 : decode cL_law 380 = .ok (.iconst 0, 1) := by decide +kernel
theorem dL_law_381 : decode cL_law 381 = .ok (.ireturn, 1) := by decide +kernel
theorem dL_law_382 : decode cL_law 382 = .ok (.aload_n 1, 1) := by decide +kernel
theorem dL_law_383 : decode cL_law 383 = .ok (.aload_n 0, 1) := by decide +kernel
theorem dL_law_384 : decode cL_law 384 = .ok (.iload_n 3, 1) := by decide +kernel
theorem dL_law_385 : decode cL_law 385 = .ok (.iconst 1, 1) := by decide +kernel
theorem dL_law_386 : decode cL_law 386 = .ok (.iadd, 1) := by decide +kernel
theorem dL_law_387 : decode cL_law 387 = .ok (.iaload, 1) := by decide +kernel
theorem dL_law_388 : decode cL_law 388 = .ok (.aload_n 0, 1) := by decide +kernel
theorem dL_law_389 : decode cL_law 389 = .ok (.iload_n 3, 1) := by decide +kernel
theorem dL_law_390 : decode cL_law 390 = .ok (.iconst 2, 1) := by decide +kernel
theorem dL_law_391 : decode cL_law 391 = .ok (.iadd, 1) := by decide +kernel
theorem dL_law_392 : decode cL_law 392 = .ok (.iaload, 1) := by decide +kernel
theorem dL_law_393 : decode cL_law 393 = .ok (.invokevirtual 50, 3) := by decide +kernel
theorem dL_law_396 : decode cL_law 396 = .ok (.aload_n 2, 1) := by decide +kernel
theorem dL_law_397 : decode cL_law 397 = .ok (.aload_n 0, 1) := by decide +kernel
theorem dL_law_398 : decode cL_law 398 = .ok (.iload_n 3, 1) := by decide +kernel
theorem dL_law_399 : decode cL_law 399 = .ok (.iconst 1, 1) := by decide +kernel
theorem dL_law_400 : decode cL_law 400 = .ok (.iadd, 1) := by decide +kernel
theorem dL_law_401 : decode cL_law 401 = .ok (.iaload, 1) := by decide +kernel
theorem dL_law_402 : decode cL_law 402 = .ok (.aload_n 0, 1) := by decide +kernel
theorem dL_law_403 : decode cL_law 403 = .ok (.iload_n 3, 1) := by decide +kernel
theorem dL_law_404 : decode cL_law 404 = .ok (.iconst 2, 1) := by decide +kernel
theorem dL_law_405 : decode cL_law 405 = .ok (.iadd, 1) := by decide +kernel
theorem dL_law_406 : decode cL_law 406 = .ok (.iaload, 1) := by decide +kernel
theorem dL_law_407 : decode cL_law 407 = .ok (.invokevirtual 53, 3) := by decide +kernel
theorem dL_law_410 : decode cL_law 410 = .ok (.if_icmp .eq 469, 3) := by decide +kernel
theorem dL_law_413 : decode cL_law 413 = .ok (.iconst 0, 1) := by decide +kernel
theorem dL_law_414 : decode cL_law 414 = .ok (.ireturn, 1) := by decide +kernel
theorem dL_law_415 : decode cL_law 415 = .ok (.aload_n 1, 1) := by decide +kernel
theorem dL_law_416 : decode cL_law 416 = .ok (.aload_n 0, 1) := by decide +kernel
theorem dL_law_417 : decode cL_law 417 = .ok (.iload_n 3, 1) := by decide +kernel
theorem dL_law_418 : decode cL_law 418 = .ok (.iconst 1, 1) := by decide +kernel
theorem dL_law_419 : decode cL_law 419 = .ok (.iadd, 1) := by decide +kernel
theorem dL_law_420 : decode cL_law 420 = .ok (.iaload, 1) := by decide +kernel
theorem dL_law_421 : decode cL_law 421 = .ok (.aload_n 0, 1) := by decide +kernel
theorem dL_law_422 : decode cL_law 422 = .ok (.iload_n 3, 1) := by decide +kernel
theorem dL_law_423 : decode cL_law 423 = .ok (.iconst 2, 1) := by decide +kernel
theorem dL_law_424 : decode cL_law 424 = .ok (.iadd, 1) := by decide +kernel
theorem dL_law_425 : decode cL_law 425 = .ok (.iaload, 1) := by decide +kernel
theorem dL_law_426 : decode cL_law 426 = .ok (.invokevirtual 54, 3) := by decide +kernel
theorem dL_law_429 : decode cL_law 429 = .ok (.aload_n 2, 1) := by decide +kernel
theorem dL_law_430 : decode cL_law 430 = .ok (.aload_n 0, 1) := by decide +kernel
theorem dL_law_431 : decode cL_law 431 = .ok (.iload_n 3, 1) := by decide +kernel
theorem dL_law_432 : decode cL_law 432 = .ok (.iconst 1, 1) := by decide +kernel
theorem dL_law_433 : decode cL_law 433 = .ok (.iadd, 1) := by decide +kernel
theorem dL_law_434 : decode cL_law 434 = .ok (.iaload, 1) := by decide +kernel
theorem dL_law_435 : decode cL_law 435 = .ok (.aload_n 0, 1) := by decide +kernel
theorem dL_law_436 : decode cL_law 436 = .ok (.iload_n 3, 1) := by decide +kernel
theorem dL_law_437 : decode cL_law 437 = .ok (.iconst 2, 1) := by decide +kernel
theorem dL_law_438 : decode cL_law 438 = .ok (.iadd, 1) := by decide +kernel
theorem dL_law_439 : decode cL_law 439 = .ok (.iaload, 1) := by decide +kernel
theorem dL_law_440 : decode cL_law 440 = .ok (.invokevirtual 57, 3) := by decide +kernel
theorem dL_law_443 : decode cL_law 443 = .ok (.if_icmp .eq 436, 3) := by decide +kernel
theorem dL_law_446 : decode cL_law 446 = .ok (.iconst 0, 1) := by decide +kernel
theorem dL_law_447 : decode cL_law 447 = .ok (.ireturn, 1) := by decide +kernel
theorem dL_law_448 : decode cL_law 448 = .ok (.aload_n 1, 1) := by decide +kernel
theorem dL_law_449 : decode cL_law 449 = .ok (.aload_n 0, 1) := by decide +kernel
theorem dL_law_450 : decode cL_law 450 = .ok (.iload_n 3, 1) := by decide +kernel
theorem dL_law_451 : decode cL_law 451 = .ok (.iconst 1, 1) := by decide +kernel
theorem dL_law_452 : decode cL_law 452 = .ok (.iadd, 1) := by decide +kernel
theorem dL_law_453 : decode cL_law 453 = .ok (.iaload, 1) := by decide +kernel
theorem dL_law_454 : decode cL_law 454 = .ok (.invokevirtual 58, 3) := by decide +kernel
theorem dL_law_457 : decode cL_law 457 = .ok (.aload_n 2, 1) := by decide +kernel
theorem dL_law_458 : decode cL_law 458 = .ok (.aload_n 0, 1) := by decide +kernel
theorem dL_law_459 : decode cL_law 459 = .ok (.iload_n 3, 1) := by decide +kernel
theorem dL_law_460 : decode cL_law 460 = .ok (.iconst 1, 1) := by decide +kernel
theorem dL_law_461 : decode cL_law 461 = .ok (.iadd, 1) := by decide +kernel
theorem dL_law_462 : decode cL_law 462 = .ok (.iaload, 1) := by decide +kernel
theorem dL_law_463 : decode cL_law 463 = .ok (.invokevirtual 62, 3) := by decide +kernel
theorem dL_law_466 : decode cL_law 466 = .ok (.if_icmp .eq 413, 3) := by decide +kernel
theorem dL_law_469 : decode cL_law 469 = .ok (.iconst 0, 1) := by decide +kernel
theorem dL_law_470 : decode cL_law 470 = .ok (.ireturn, 1) := by decide +kernel
theorem dL_law_471 : decode cL_law 471 = .ok (.aload_n 1, 1) := by decide +kernel
theorem dL_law_472 : decode cL_law 472 = .ok (.aload_n 0, 1) := by decide +kernel
theorem dL_law_473 : decode cL_law 473 = .ok (.iload_n 3, 1) := by decide +kernel
theorem dL_law_474 : decode cL_law 474 = .ok (.iconst 1, 1) := by decide +kernel
theorem dL_law_475 : decode cL_law 475 = .ok (.iadd, 1) := by decide +kernel
theorem dL_law_476 : decode cL_law 476 = .ok (.iaload, 1) := by decide +kernel
theorem dL_law_477 : decode cL_law 477 = .ok (.aload_n 0, 1) := by decide +kernel
theorem dL_law_478 : decode cL_law 478 = .ok (.iload_n 3, 1) := by decide +kernel
theorem dL_law_479 : decode cL_law 479 = .ok (.iconst 2, 1) := by decide +kernel
theorem dL_law_480 : decode cL_law 480 = .ok (.iadd, 1) := by decide +kernel
theorem dL_law_481 : decode cL_law 481 = .ok (.iaload, 1) := by decide +kernel
theorem dL_law_482 : decode cL_law 482 = .ok (.invokevirtual 63, 3) := by decide +kernel
theorem dL_law_485 : decode cL_law 485 = .ok (.aload_n 2, 1) := by decide +kernel
theorem dL_law_486 : decode cL_law 486 = .ok (.aload_n 0, 1) := by decide +kernel
theorem dL_law_487 : decode cL_law 487 = .ok (.iload_n 3, 1) := by decide +kernel
theorem dL_law_488 : decode cL_law 488 = .ok (.iconst 1, 1) := by decide +kernel
theorem dL_law_489 : decode cL_law 489 = .ok (.iadd, 1) := by decide +kernel
theorem dL_law_490 : decode cL_law 490 = .ok (.iaload, 1) := by decide +kernel
theorem dL_law_491 : decode cL_law 491 = .ok (.aload_n 0, 1) := by decide +kernel
theorem dL_law_492 : decode cL_law 492 = .ok (.iload_n 3, 1) := by decide +kernel
theorem dL_law_493 : decode cL_law 493 = .ok (.iconst 2, 1) := by decide +kernel
theorem dL_law_494 : decode cL_law 494 = .ok (.iadd, 1) := by decide +kernel
theorem dL_law_495 : decode cL_law 495 = .ok (.iaload, 1) := by decide +kernel
theorem dL_law_496 : decode cL_law 496 = .ok (.invokevirtual 66, 3) := by decide +kernel
theorem dL_law_499 : decode cL_law 499 = .ok (.if_icmp .eq 380, 3) := by decide +kernel
theorem dL_law_502 : decode cL_law 502 = .ok (.iconst 0, 1) := by decide +kernel
theorem dL_law_503 : decode cL_law 503 = .ok (.ireturn, 1) := by decide +kernel
theorem dL_law_504 : decode cL_law 504 = .ok (.aload_n 1, 1) := by decide +kernel
theorem dL_law_505 : decode cL_law 505 = .ok (.aload_n 0, 1) := by decide +kernel
theorem dL_law_506 : decode cL_law 506 = .ok (.iload_n 3, 1) := by decide +kernel
theorem dL_law_507 : decode cL_law 507 = .ok (.iconst 1, 1) := by decide +kernel
theorem dL_law_508 : decode cL_law 508 = .ok (.iadd, 1) := by decide +kernel
theorem dL_law_509 : decode cL_law 509 = .ok (.iaload, 1) := by decide +kernel
theorem dL_law_510 : decode cL_law 510 = .ok (.aload_n 0, 1) := by decide +kernel
theorem dL_law_511 : decode cL_law 511 = .ok (.iload_n 3, 1) := by decide +kernel
theorem dL_law_512 : decode cL_law 512 = .ok (.iconst 2, 1) := by decide +kernel
theorem dL_law_513 : decode cL_law 513 = .ok (.iadd, 1) := by decide +kernel
theorem dL_law_514 : decode cL_law 514 = .ok (.iaload, 1) := by decide +kernel
theorem dL_law_515 : decode cL_law 515 = .ok (.invokevirtual 67, 3) := by decide +kernel
theorem dL_law_518 : decode cL_law 518 = .ok (.aload_n 2, 1) := by decide +kernel
theorem dL_law_519 : decode cL_law 519 = .ok (.aload_n 0, 1) := by decide +kernel
theorem dL_law_520 : decode cL_law 520 = .ok (.iload_n 3, 1) := by decide +kernel
theorem dL_law_521 : decode cL_law 521 = .ok (.iconst 1, 1) := by decide +kernel
theorem dL_law_522 : decode cL_law 522 = .ok (.iadd, 1) := by decide +kernel
theorem dL_law_523 : decode cL_law 523 = .ok (.iaload, 1) := by decide +kernel
theorem dL_law_524 : decode cL_law 524 = .ok (.aload_n 0, 1) := by decide +kernel
theorem dL_law_525 : decode cL_law 525 = .ok (.iload_n 3, 1) := by decide +kernel
theorem dL_law_526 : decode cL_law 526 = .ok (.iconst 2, 1) := by decide +kernel
theorem dL_law_527 : decode cL_law 527 = .ok (.iadd, 1) := by decide +kernel
theorem dL_law_528 : decode cL_law 528 = .ok (.iaload, 1) := by decide +kernel
theorem dL_law_529 : decode cL_law 529 = .ok (.invokevirtual 70, 3) := by decide +kernel
theorem dL_law_532 : decode cL_law 532 = .ok (.if_icmp .eq 347, 3) := by decide +kernel
theorem dL_law_535 : decode cL_law 535 = .ok (.iconst 0, 1) := by decide +kernel
theorem dL_law_536 : decode cL_law 536 = .ok (.ireturn, 1) := by decide +kernel
theorem dL_law_537 : decode cL_law 537 = .ok (.aload_n 1, 1) := by decide +kernel
theorem dL_law_538 : decode cL_law 538 = .ok (.aload_n 0, 1) := by decide +kernel
theorem dL_law_539 : decode cL_law 539 = .ok (.iload_n 3, 1) := by decide +kernel
theorem dL_law_540 : decode cL_law 540 = .ok (.iconst 1, 1) := by decide +kernel
theorem dL_law_541 : decode cL_law 541 = .ok (.iadd, 1) := by decide +kernel
theorem dL_law_542 : decode cL_law 542 = .ok (.iaload, 1) := by decide +kernel
theorem dL_law_543 : decode cL_law 543 = .ok (.aload_n 0, 1) := by decide +kernel
theorem dL_law_544 : decode cL_law 544 = .ok (.iload_n 3, 1) := by decide +kernel
theorem dL_law_545 : decode cL_law 545 = .ok (.iconst 2, 1) := by decide +kernel
theorem dL_law_546 : decode cL_law 546 = .ok (.iadd, 1) := by decide +kernel
theorem dL_law_547 : decode cL_law 547 = .ok (.iaload, 1) := by decide +kernel
theorem dL_law_548 : decode cL_law 548 = .ok (.aload_n 0, 1) := by decide +kernel
theorem dL_law_549 : decode cL_law 549 = .ok (.iload_n 3, 1) := by decide +kernel
theorem dL_law_550 : decode cL_law 550 = .ok (.iconst 3, 1) := by decide +kernel
theorem dL_law_551 : decode cL_law 551 = .ok (.iadd, 1) := by decide +kernel
theorem dL_law_552 : decode cL_law 552 = .ok (.iaload, 1) := by decide +kernel
theorem dL_law_553 : decode cL_law 553 = .ok (.invokevirtual 71, 3) := by decide +kernel
theorem dL_law_556 : decode cL_law 556 = .ok (.aload_n 2, 1) := by decide +kernel
theorem dL_law_557 : decode cL_law 557 = .ok (.aload_n 0, 1) := by decide +kernel
theorem dL_law_558 : decode cL_law 558 = .ok (.iload_n 3, 1) := by decide +kernel
theorem dL_law_559 : decode cL_law 559 = .ok (.iconst 1, 1) := by decide +kernel
theorem dL_law_560 : decode cL_law 560 = .ok (.iadd, 1) := by decide +kernel
theorem dL_law_561 : decode cL_law 561 = .ok (.iaload, 1) := by decide +kernel
theorem dL_law_562 : decode cL_law 562 = .ok (.aload_n 0, 1) := by decide +kernel
theorem dL_law_563 : decode cL_law 563 = .ok (.iload_n 3, 1) := by decide +kernel
theorem dL_law_564 : decode cL_law 564 = .ok (.iconst 2, 1) := by decide +kernel
theorem dL_law_565 : decode cL_law 565 = .ok (.iadd, 1) := by decide +kernel
theorem dL_law_566 : decode cL_law 566 = .ok (.iaload, 1) := by decide +kernel
theorem dL_law_567 : decode cL_law 567 = .ok (.aload_n 0, 1) := by decide +kernel
theorem dL_law_568 : decode cL_law 568 = .ok (.iload_n 3, 1) := by decide +kernel
theorem dL_law_569 : decode cL_law 569 = .ok (.iconst 3, 1) := by decide +kernel
theorem dL_law_570 : decode cL_law 570 = .ok (.iadd, 1) := by decide +kernel
theorem dL_law_571 : decode cL_law 571 = .ok (.iaload, 1) := by decide +kernel
theorem dL_law_572 : decode cL_law 572 = .ok (.invokevirtual 75, 3) := by decide +kernel
theorem dL_law_575 : decode cL_law 575 = .ok (.if_icmp .eq 304, 3) := by decide +kernel
theorem dL_law_578 : decode cL_law 578 = .ok (.iconst 0, 1) := by decide +kernel
theorem dL_law_579 : decode cL_law 579 = .ok (.ireturn, 1) := by decide +kernel
theorem dL_law_580 : decode cL_law 580 = .ok (.aload_n 1, 1) := by decide +kernel
theorem dL_law_581 : decode cL_law 581 = .ok (.invokevirtual 76, 3) := by decide +kernel
theorem dL_law_584 : decode cL_law 584 = .ok (.aload_n 2, 1) := by decide +kernel
theorem dL_law_585 : decode cL_law 585 = .ok (.invokevirtual 79, 3) := by decide +kernel
theorem dL_law_588 : decode cL_law 588 = .ok (.if_icmp .eq 291, 3) := by decide +kernel
theorem dL_law_591 : decode cL_law 591 = .ok (.iconst 0, 1) := by decide +kernel
theorem dL_law_592 : decode cL_law 592 = .ok (.ireturn, 1) := by decide +kernel
theorem dL_law_593 : decode cL_law 593 = .ok (.aload_n 1, 1) := by decide +kernel
theorem dL_law_594 : decode cL_law 594 = .ok (.aload_n 0, 1) := by decide +kernel
theorem dL_law_595 : decode cL_law 595 = .ok (.iload_n 3, 1) := by decide +kernel
theorem dL_law_596 : decode cL_law 596 = .ok (.iconst 1, 1) := by decide +kernel
theorem dL_law_597 : decode cL_law 597 = .ok (.iadd, 1) := by decide +kernel
theorem dL_law_598 : decode cL_law 598 = .ok (.iaload, 1) := by decide +kernel
theorem dL_law_599 : decode cL_law 599 = .ok (.aload_n 0, 1) := by decide +kernel
theorem dL_law_600 : decode cL_law 600 = .ok (.iload_n 3, 1) := by decide +kernel
theorem dL_law_601 : decode cL_law 601 = .ok (.iconst 2, 1) := by decide +kernel
theorem dL_law_602 : decode cL_law 602 = .ok (.iadd, 1) := by decide +kernel
theorem dL_law_603 : decode cL_law 603 = .ok (.iaload, 1) := by decide +kernel
theorem dL_law_604 : decode cL_law 604 = .ok (.aload_n 0, 1) := by decide +kernel
theorem dL_law_605 : decode cL_law 605 = .ok (.iload_n 3, 1) := by decide +kernel
theorem dL_law_606 : decode cL_law 606 = .ok (.iconst 3, 1) := by decide +kernel
theorem dL_law_607 : decode cL_law 607 = .ok (.iadd, 1) := by decide +kernel
theorem dL_law_608 : decode cL_law 608 = .ok (.iaload, 1) := by decide +kernel
theorem dL_law_609 : decode cL_law 609 = .ok (.aload_n 0, 1) := by decide +kernel
theorem dL_law_610 : decode cL_law 610 = .ok (.iload_n 3, 1) := by decide +kernel
theorem dL_law_611 : decode cL_law 611 = .ok (.iconst 4, 1) := by decide +kernel
theorem dL_law_612 : decode cL_law 612 = .ok (.iadd, 1) := by decide +kernel
theorem dL_law_613 : decode cL_law 613 = .ok (.iaload, 1) := by decide +kernel
theorem dL_law_614 : decode cL_law 614 = .ok (.ifCond .eq 7, 3) := by decide +kernel
theorem dL_law_617 : decode cL_law 617 = .ok (.iconst 1, 1) := by decide +kernel
theorem dL_law_618 : decode cL_law 618 = .ok (.goto 4, 3) := by decide +kernel
theorem dL_law_621 : decode cL_law 621 = .ok (.iconst 0, 1) := by decide +kernel
theorem dL_law_622 : decode cL_law 622 = .ok (.invokevirtual 80, 3) := by decide +kernel
theorem dL_law_625 : decode cL_law 625 = .ok (.aload_n 2, 1) := by decide +kernel
theorem dL_law_626 : decode cL_law 626 = .ok (.aload_n 0, 1) := by decide +kernel
theorem dL_law_627 : decode cL_law 627 = .ok (.iload_n 3, 1) := by decide +kernel
theorem dL_law_628 : decode cL_law 628 = .ok (.iconst 1, 1) := by decide +kernel
theorem dL_law_629 : decode cL_law 629 = .ok (.iadd, 1) := by decide +kernel
theorem dL_law_630 : decode cL_law 630 = .ok (.iaload, 1) := by decide +kernel
theorem dL_law_631 : decode cL_law 631 = .ok (.aload_n 0, 1) := by decide +kernel
theorem dL_law_632 : decode cL_law 632 = .ok (.iload_n 3, 1) := by decide +kernel
theorem dL_law_633 : decode cL_law 633 = .ok (.iconst 2, 1) := by decide +kernel
theorem dL_law_634 : decode cL_law 634 = .ok (.iadd, 1) := by decide +kernel
theorem dL_law_635 : decode cL_law 635 = .ok (.iaload, 1) := by decide +kernel
theorem dL_law_636 : decode cL_law 636 = .ok (.aload_n 0, 1) := by decide +kernel
theorem dL_law_637 : decode cL_law 637 = .ok (.iload_n 3, 1) := by decide +kernel
theorem dL_law_638 : decode cL_law 638 = .ok (.iconst 3, 1) := by decide +kernel
theorem dL_law_639 : decode cL_law 639 = .ok (.iadd, 1) := by decide +kernel
theorem dL_law_640 : decode cL_law 640 = .ok (.iaload, 1) := by decide +kernel
theorem dL_law_641 : decode cL_law 641 = .ok (.aload_n 0, 1) := by decide +kernel
theorem dL_law_642 : decode cL_law 642 = .ok (.iload_n 3, 1) := by decide +kernel
theorem dL_law_643 : decode cL_law 643 = .ok (.iconst 4, 1) := by decide +kernel
theorem dL_law_644 : decode cL_law 644 = .ok (.iadd, 1) := by decide +kernel
theorem dL_law_645 : decode cL_law 645 = .ok (.iaload, 1) := by decide +kernel
theorem dL_law_646 : decode cL_law 646 = .ok (.ifCond .eq 7, 3) := by decide +kernel
theorem dL_law_649 : decode cL_law 649 = .ok (.iconst 1, 1) := by decide +kernel
theorem dL_law_650 : decode cL_law 650 = .ok (.goto 4, 3) := by decide +kernel
theorem dL_law_653 : decode cL_law 653 = .ok (.iconst 0, 1) := by decide +kernel
theorem dL_law_654 : decode cL_law 654 = .ok (.invokevirtual 84, 3) := by decide +kernel
theorem dL_law_657 : decode cL_law 657 = .ok (.if_icmp .eq 222, 3) := by decide +kernel
theorem dL_law_660 : decode cL_law 660 = .ok (.iconst 0, 1) := by decide +kernel
theorem dL_law_661 : decode cL_law 661 = .ok (.ireturn, 1) := by decide +kernel
theorem dL_law_662 : decode cL_law 662 = .ok (.aload_n 1, 1) := by decide +kernel
theorem dL_law_663 : decode cL_law 663 = .ok (.invokevirtual 85, 3) := by decide +kernel
theorem dL_law_666 : decode cL_law 666 = .ok (.aload_n 2, 1) := by decide +kernel
theorem dL_law_667 : decode cL_law 667 = .ok (.invokevirtual 88, 3) := by decide +kernel
theorem dL_law_670 : decode cL_law 670 = .ok (.if_icmp .eq 209, 3) := by decide +kernel
theorem dL_law_673 : decode cL_law 673 = .ok (.iconst 0, 1) := by decide +kernel
theorem dL_law_674 : decode cL_law 674 = .ok (.ireturn, 1) := by decide +kernel
theorem dL_law_675 : decode cL_law 675 = .ok (.aload_n 1, 1) := by decide +kernel
theorem dL_law_676 : decode cL_law 676 = .ok (.aload_n 0, 1) := by decide +kernel
theorem dL_law_677 : decode cL_law 677 = .ok (.iload_n 3, 1) := by decide +kernel
theorem dL_law_678 : decode cL_law 678 = .ok (.iconst 1, 1) := by decide +kernel
theorem dL_law_679 : decode cL_law 679 = .ok (.iadd, 1) := by decide +kernel
theorem dL_law_680 : decode cL_law 680 = .ok (.iaload, 1) := by decide +kernel
theorem dL_law_681 : decode cL_law 681 = .ok (.invokevirtual 89, 3) := by decide +kernel
theorem dL_law_684 : decode cL_law 684 = .ok (.aload_n 2, 1) := by decide +kernel
theorem dL_law_685 : decode cL_law 685 = .ok (.aload_n 0, 1) := by decide +kernel
theorem dL_law_686 : decode cL_law 686 = .ok (.iload_n 3, 1) := by decide +kernel
theorem dL_law_687 : decode cL_law 687 = .ok (.iconst 1, 1) := by decide +kernel
theorem dL_law_688 : decode cL_law 688 = .ok (.iadd, 1) := by decide +kernel
theorem dL_law_689 : decode cL_law 689 = .ok (.iaload, 1) := by decide +kernel
theorem dL_law_690 : decode cL_law 690 = .ok (.invokevirtual 92, 3) := by decide +kernel
theorem dL_law_693 : decode cL_law 693 = .ok (.if_icmp .eq 186, 3) := by decide +kernel
theorem dL_law_696 : decode cL_law 696 = .ok (.iconst 0, 1) := by decide +kernel
theorem dL_law_697 : decode cL_law 697 = .ok (.ireturn, 1) := by decide +kernel
theorem dL_law_698 : decode cL_law 698 = .ok (.aload_n 1, 1) := by decide +kernel
theorem dL_law_699 : decode cL_law 699 = .ok (.aload_n 0, 1) := by decide +kernel
theorem dL_law_700 : decode cL_law 700 = .ok (.iload_n 3, 1) := by decide +kernel
theorem dL_law_701 : decode cL_law 701 = .ok (.iconst 1, 1) := by decide +kernel
theorem dL_law_702 : decode cL_law 702 = .ok (.iadd, 1) := by decide +kernel
theorem dL_law_703 : decode cL_law 703 = .ok (.iaload, 1) := by decide +kernel
theorem dL_law_704 : decode cL_law 704 = .ok (.invokevirtual 93, 3) := by decide +kernel
theorem dL_law_707 : decode cL_law 707 = .ok (.aload_n 2, 1) := by decide +kernel
theorem dL_law_708 : decode cL_law 708 = .ok (.aload_n 0, 1) := by decide +kernel
theorem dL_law_709 : decode cL_law 709 = .ok (.iload_n 3, 1) := by decide +kernel
theorem dL_law_710 : decode cL_law 710 = .ok (.iconst 1, 1) := by decide +kernel
theorem dL_law_711 : decode cL_law 711 = .ok (.iadd, 1) := by decide +kernel
theorem dL_law_712 : decode cL_law 712 = .ok (.iaload, 1) := by decide +kernel
theorem dL_law_713 : decode cL_law 713 = .ok (.invokevirtual 96, 3) := by decide +kernel
theorem dL_law_716 : decode cL_law 716 = .ok (.if_icmp .eq 163, 3) := by decide +kernel
theorem dL_law_719 : decode cL_law 719 = .ok (.iconst 0, 1) := by decide +kernel
theorem dL_law_720 : decode cL_law 720 = .ok (.ireturn, 1) := by decide +kernel
theorem dL_law_721 : decode cL_law 721 = .ok (.aload_n 1, 1) := by decide +kernel
theorem dL_law_722 : decode cL_law 722 = .ok (.aload_n 0, 1) := by decide +kernel
theorem dL_law_723 : decode cL_law 723 = .ok (.iload_n 3, 1) := by decide +kernel
theorem dL_law_724 : decode cL_law 724 = .ok (.iconst 1, 1) := by decide +kernel
theorem dL_law_725 : decode cL_law 725 = .ok (.iadd, 1) := by decide +kernel
theorem dL_law_726 : decode cL_law 726 = .ok (.iaload, 1) := by decide +kernel
theorem dL_law_727 : decode cL_law 727 = .ok (.aload_n 0, 1) := by decide +kernel
theorem dL_law_728 : decode cL_law 728 = .ok (.iload_n 3, 1) := by decide +kernel
theorem dL_law_729 : decode cL_law 729 = .ok (.iconst 2, 1) := by decide +kernel
theorem dL_law_730 : decode cL_law 730 = .ok (.iadd, 1) := by decide +kernel
theorem dL_law_731 : decode cL_law 731 = .ok (.iaload, 1) := by decide +kernel
theorem dL_law_732 : decode cL_law 732 = .ok (.invokevirtual 97, 3) := by decide +kernel
theorem dL_law_735 : decode cL_law 735 = .ok (.aload_n 2, 1) := by decide +kernel
theorem dL_law_736 : decode cL_law 736 = .ok (.aload_n 0, 1) := by decide +kernel
theorem dL_law_737 : decode cL_law 737 = .ok (.iload_n 3, 1) := by decide +kernel
theorem dL_law_738 : decode cL_law 738 = .ok (.iconst 1, 1) := by decide +kernel
theorem dL_law_739 : decode cL_law 739 = .ok (.iadd, 1) := by decide +kernel
theorem dL_law_740 : decode cL_law 740 = .ok (.iaload, 1) := by decide +kernel
theorem dL_law_741 : decode cL_law 741 = .ok (.aload_n 0, 1) := by decide +kernel
theorem dL_law_742 : decode cL_law 742 = .ok (.iload_n 3, 1) := by decide +kernel
theorem dL_law_743 : decode cL_law 743 = .ok (.iconst 2, 1) := by decide +kernel
theorem dL_law_744 : decode cL_law 744 = .ok (.iadd, 1) := by decide +kernel
theorem dL_law_745 : decode cL_law 745 = .ok (.iaload, 1) := by decide +kernel
theorem dL_law_746 : decode cL_law 746 = .ok (.invokevirtual 100, 3) := by decide +kernel
theorem dL_law_749 : decode cL_law 749 = .ok (.if_icmp .eq 130, 3) := by decide +kernel
theorem dL_law_752 : decode cL_law 752 = .ok (.iconst 0, 1) := by decide +kernel
theorem dL_law_753 : decode cL_law 753 = .ok (.ireturn, 1) := by decide +kernel
theorem dL_law_754 : decode cL_law 754 = .ok (.aload_n 1, 1) := by decide +kernel
theorem dL_law_755 : decode cL_law 755 = .ok (.aload_n 0, 1) := by decide +kernel
theorem dL_law_756 : decode cL_law 756 = .ok (.iload_n 3, 1) := by decide +kernel
theorem dL_law_757 : decode cL_law 757 = .ok (.iconst 1, 1) := by decide +kernel
theorem dL_law_758 : decode cL_law 758 = .ok (.iadd, 1) := by decide +kernel
theorem dL_law_759 : decode cL_law 759 = .ok (.iaload, 1) := by decide +kernel
theorem dL_law_760 : decode cL_law 760 = .ok (.aload_n 0, 1) := by decide +kernel
theorem dL_law_761 : decode cL_law 761 = .ok (.iload_n 3, 1) := by decide +kernel
theorem dL_law_762 : decode cL_law 762 = .ok (.iconst 2, 1) := by decide +kernel
theorem dL_law_763 : decode cL_law 763 = .ok (.iadd, 1) := by decide +kernel
theorem dL_law_764 : decode cL_law 764 = .ok (.iaload, 1) := by decide +kernel
theorem dL_law_765 : decode cL_law 765 = .ok (.aload_n 0, 1) := by decide +kernel
theorem dL_law_766 : decode cL_law 766 = .ok (.iload_n 3, 1) := by decide +kernel
theorem dL_law_767 : decode cL_law 767 = .ok (.iconst 3, 1) := by decide +kernel
theorem dL_law_768 : decode cL_law 768 = .ok (.iadd, 1) := by decide +kernel
theorem dL_law_769 : decode cL_law 769 = .ok (.iaload, 1) := by decide +kernel
theorem dL_law_770 : decode cL_law 770 = .ok (.invokevirtual 101, 3) := by decide +kernel
theorem dL_law_773 : decode cL_law 773 = .ok (.aload_n 2, 1) := by decide +kernel
theorem dL_law_774 : decode cL_law 774 = .ok (.aload_n 0, 1) := by decide +kernel
theorem dL_law_775 : decode cL_law 775 = .ok (.iload_n 3, 1) := by decide +kernel
theorem dL_law_776 : decode cL_law 776 = .ok (.iconst 1, 1) := by decide +kernel
theorem dL_law_777 : decode cL_law 777 = .ok (.iadd, 1) := by decide +kernel
theorem dL_law_778 : decode cL_law 778 = .ok (.iaload, 1) := by decide +kernel
theorem dL_law_779 : decode cL_law 779 = .ok (.aload_n 0, 1) := by decide +kernel
theorem dL_law_780 : decode cL_law 780 = .ok (.iload_n 3, 1) := by decide +kernel
theorem dL_law_781 : decode cL_law 781 = .ok (.iconst 2, 1) := by decide +kernel
theorem dL_law_782 : decode cL_law 782 = .ok (.iadd, 1) := by decide +kernel
theorem dL_law_783 : decode cL_law 783 = .ok (.iaload, 1) := by decide +kernel
theorem dL_law_784 : decode cL_law 784 = .ok (.aload_n 0, 1) := by decide +kernel
theorem dL_law_785 : decode cL_law 785 = .ok (.iload_n 3, 1) := by decide +kernel
theorem dL_law_786 : decode cL_law 786 = .ok (.iconst 3, 1) := by decide +kernel
theorem dL_law_787 : decode cL_law 787 = .ok (.iadd, 1) := by decide +kernel
theorem dL_law_788 : decode cL_law 788 = .ok (.iaload, 1) := by decide +kernel
theorem dL_law_789 : decode cL_law 789 = .ok (.invokevirtual 104, 3) := by decide +kernel
theorem dL_law_792 : decode cL_law 792 = .ok (.if_icmp .eq 87, 3) := by decide +kernel
theorem dL_law_795 : decode cL_law 795 = .ok (.iconst 0, 1) := by decide +kernel
theorem dL_law_796 : decode cL_law 796 = .ok (.ireturn, 1) := by decide +kernel
theorem dL_law_797 : decode cL_law 797 = .ok (.aload_n 1, 1) := by decide +kernel
theorem dL_law_798 : decode cL_law 798 = .ok (.aload_n 0, 1) := by decide +kernel
theorem dL_law_799 : decode cL_law 799 = .ok (.iload_n 3, 1) := by decide +kernel
theorem dL_law_800 : decode cL_law 800 = .ok (.iconst 1, 1) := by decide +kernel
theorem dL_law_801 : decode cL_law 801 = .ok (.iadd, 1) := by decide +kernel
theorem dL_law_802 : decode cL_law 802 = .ok (.iaload, 1) := by decide +kernel
theorem dL_law_803 : decode cL_law 803 = .ok (.aload_n 0, 1) := by decide +kernel
theorem dL_law_804 : decode cL_law 804 = .ok (.iload_n 3, 1) := by decide +kernel
theorem dL_law_805 : decode cL_law 805 = .ok (.iconst 2, 1) := by decide +kernel
theorem dL_law_806 : decode cL_law 806 = .ok (.iadd, 1) := by decide +kernel
theorem dL_law_807 : decode cL_law 807 = .ok (.iaload, 1) := by decide +kernel
theorem dL_law_808 : decode cL_law 808 = .ok (.invokevirtual 105, 3) := by decide +kernel
theorem dL_law_811 : decode cL_law 811 = .ok (.aload_n 2, 1) := by decide +kernel
theorem dL_law_812 : decode cL_law 812 = .ok (.aload_n 0, 1) := by decide +kernel
theorem dL_law_813 : decode cL_law 813 = .ok (.iload_n 3, 1) := by decide +kernel
theorem dL_law_814 : decode cL_law 814 = .ok (.iconst 1, 1) := by decide +kernel
theorem dL_law_815 : decode cL_law 815 = .ok (.iadd, 1) := by decide +kernel
theorem dL_law_816 : decode cL_law 816 = .ok (.iaload, 1) := by decide +kernel
theorem dL_law_817 : decode cL_law 817 = .ok (.aload_n 0, 1) := by decide +kernel
theorem dL_law_818 : decode cL_law 818 = .ok (.iload_n 3, 1) := by decide +kernel
theorem dL_law_819 : decode cL_law 819 = .ok (.iconst 2, 1) := by decide +kernel
theorem dL_law_820 : decode cL_law 820 = .ok (.iadd, 1) := by decide +kernel
theorem dL_law_821 : decode cL_law 821 = .ok (.iaload, 1) := by decide +kernel
theorem dL_law_822 : decode cL_law 822 = .ok (.invokevirtual 108, 3) := by decide +kernel
theorem dL_law_825 : decode cL_law 825 = .ok (.if_icmp .eq 54, 3) := by decide +kernel
theorem dL_law_828 : decode cL_law 828 = .ok (.iconst 0, 1) := by decide +kernel
theorem dL_law_829 : decode cL_law 829 = .ok (.ireturn, 1) := by decide +kernel
theorem dL_law_830 : decode cL_law 830 = .ok (.aload_n 1, 1) := by decide +kernel
theorem dL_law_831 : decode cL_law 831 = .ok (.invokevirtual 109, 3) := by decide +kernel
theorem dL_law_834 : decode cL_law 834 = .ok (.aload_n 2, 1) := by decide +kernel
theorem dL_law_835 : decode cL_law 835 = .ok (.invokevirtual 112, 3) := by decide +kernel
theorem dL_law_838 : decode cL_law 838 = .ok (.if_icmp .eq 41, 3) := by decide +kernel
theorem dL_law_841 : decode cL_law 841 = .ok (.iconst 0, 1) := by decide +kernel
theorem dL_law_842 : decode cL_law 842 = .ok (.ireturn, 1) := by decide +kernel
theorem dL_law_843 : decode cL_law 843 = .ok (.aload_n 1, 1) := by decide +kernel
theorem dL_law_844 : decode cL_law 844 = .ok (.invokevirtual 113, 3) := by decide +kernel
theorem dL_law_847 : decode cL_law 847 = .ok (.aload_n 2, 1) := by decide +kernel
theorem dL_law_848 : decode cL_law 848 = .ok (.invokevirtual 116, 3) := by decide +kernel
theorem dL_law_851 : decode cL_law 851 = .ok (.if_icmp .eq 28, 3) := by decide +kernel
theorem dL_law_854 : decode cL_law 854 = .ok (.iconst 0, 1) := by decide +kernel
theorem dL_law_855 : decode cL_law 855 = .ok (.ireturn, 1) := by decide +kernel
theorem dL_law_856 : decode cL_law 856 = .ok (.aload_n 1, 1) := by decide +kernel
theorem dL_law_857 : decode cL_law 857 = .ok (.aload_n 0, 1) := by decide +kernel
theorem dL_law_858 : decode cL_law 858 = .ok (.iload_n 3, 1) := by decide +kernel
theorem dL_law_859 : decode cL_law 859 = .ok (.iconst 1, 1) := by decide +kernel
theorem dL_law_860 : decode cL_law 860 = .ok (.iadd, 1) := by decide +kernel
theorem dL_law_861 : decode cL_law 861 = .ok (.iaload, 1) := by decide +kernel
theorem dL_law_862 : decode cL_law 862 = .ok (.invokevirtual 117, 3) := by decide +kernel
theorem dL_law_865 : decode cL_law 865 = .ok (.aload_n 2, 1) := by decide +kernel
theorem dL_law_866 : decode cL_law 866 = .ok (.aload_n 0, 1) := by decide +kernel
theorem dL_law_867 : decode cL_law 867 = .ok (.iload_n 3, 1) := by decide +kernel
theorem dL_law_868 : decode cL_law 868 = .ok (.iconst 1, 1) := by decide +kernel
theorem dL_law_869 : decode cL_law 869 = .ok (.iadd, 1) := by decide +kernel
theorem dL_law_870 : decode cL_law 870 = .ok (.iaload, 1) := by decide +kernel
theorem dL_law_871 : decode cL_law 871 = .ok (.invokevirtual 120, 3) := by decide +kernel
theorem dL_law_874 : decode cL_law 874 = .ok (.if_icmp .eq 5, 3) := by decide +kernel
theorem dL_law_877 : decode cL_law 877 = .ok (.iconst 0, 1) := by decide +kernel
theorem dL_law_878 : decode cL_law 878 = .ok (.ireturn, 1) := by decide +kernel
theorem dL_law_879 : decode cL_law 879 = .ok (.iinc 3 5, 3) := by decide +kernel
theorem dL_law_882 : decode cL_law 882 = .ok (.goto (-864), 3) := by decide +kernel
theorem dL_law_885 : decode cL_law 885 = .ok (.iconst 1, 1) := by decide +kernel
theorem dL_law_886 : decode cL_law 886 = .ok (.ireturn, 1) := by decide +kernel
