set_option maxRecDepth 20000 in
theorem gX8_init_J0_length_8abf5 : GoodIn wsX8_init (wsV RX8 70 RJ0 yJ0_length_8abf5 wsJ0_length_8abf5) := goodIn_app (goodIn_of _ (by decide +kernel)) ggX8_init_J0_length_8abf5
set_option maxRecDepth 20000 in
theorem ggX8_init_J0_charAt_5068e : GoodIn wsX8_init wsJ0_charAt_5068e := goodIn_r _ [121, 111, 122, 123, 124, 109, 125, 116, 117, 126, 127, 128, 129, 130, 131, 132, 133, 134, 135, 136, 137, 138, 139, 140, 141, 142, 143, 144, 145, 146, 147, 148, 149, 150, 151, 152, 153, 154] (by decide +kernel) (by decide +kernel)
set_option maxRecDepth 20000 in
theorem gX8_init_J0_charAt_5068e : GoodIn wsX8_init (wsV RX8 76 RJ0 yJ0_charAt_5068e wsJ0_charAt_5068e) := goodIn_app (goodIn_of _ (by decide +kernel)) ggX8_init_J0_charAt_5068e
set_option maxRecDepth 20000 in
theorem ggX8_init_X3_append : GoodIn wsX8_init wsX3_append := goodIn_r _ [158, 42, 41, 288, 289, 290] (by decide +kernel) (by decide +kernel)
set_option maxRecDepth 20000 in
theorem gX8_init_X3_append : GoodIn wsX8_init (wsV RX8 80 RX3 yX3_append wsX3_append) := goodIn_app (goodIn_of _ (by decide +kernel)) ggX8_init_X3_append
set_option maxRecDepth 20000 in
theorem ggX8_init_X8_layText : GoodIn wsX8_init wsX8_layText := goodIn_r _ [163, 7, 12, 11, 23, 164, 31, 165, 35, 166, 167, 168, 169, 6, 170, 42, 171, 172, 173, 10, 174, 47, 50, 58, 175, 53, 54, 176, 177, 178, 179, 41, 43, 180, 181, 182, 183, 184, 185, 186, 187, 188, 189, 190, 191, 192, 193, 194, 195, 196, 197, 198, 48, 49, 199, 200, 201, 202, 203, 51, 52, 204, 205, 206, 207, 208, 162, 209, 210, 211, 212, 57, 213, 63, 64, 65, 66, 214, 215, 216, 217, 218, 219, 220, 221, 222, 223, 224, 225, 226, 227, 228, 229, 230, 231, 232, 233, 234, 16, 235, 236, 237, 238, 239, 15, 240, 72, 73, 74, 241, 242, 71, 243, 244, 245, 246, 247, 248, 249, 250, 251, 252, 253, 254, 255, 256, 257, 258, 259, 260, 261, 262, 263, 264, 265, 266, 267, 268, 269, 270, 271, 272, 273, 274, 275, 276, 277, 278, 279, 280, 281, 282, 283, 284, 285, 286, 287, 291, 292, 293, 294, 295, 296, 297, 298, 299, 300, 314, 315, 316, 317, 318, 319, 325, 326, 327, 328, 329, 288, 289, 290, 301, 302, 303, 304, 305, 306, 307, 308, 309, 330, 331, 332, 333, 334, 310, 311, 312, 313] (by decide +kernel) (by decide +kernel)
set_option maxRecDepth 20000 in
theorem gX8_init_X8_layText : GoodIn wsX8_init (wsV RX8 84 RX8 yX8_layText wsX8_layText) := goodIn_app (goodIn_of _ (by decide +kernel)) ggX8_init_X8_layText
theorem dX8_init_0 : decode cX8_init 0 = .ok (.aload_n 0, 1) := by decide +kernel
theorem dX8_init_1 : decode cX8_init 1 = .ok (.invokespecial 1, 3) := by decide +kernel
theorem dX8_init_4 : decode cX8_init 4 = .ok (.aload_n 0, 1) := by decide +kernel
theorem dX8_init_5 : decode cX8_init 5 = .ok (.new 7, 3) := by decide +kernel
theorem dX8_init_8 : decode cX8_init 8 = .ok (.dup, 1) := by decide +kernel
theorem dX8_init_9 : decode cX8_init 9 = .ok (.invokespecial 9, 3) := by decide +kernel
theorem dX8_init_12 : decode cX8_init 12 = .ok (.putfield 10, 3) := by decide +kernel
theorem dX8_init_15 : decode cX8_init 15 = .ok (.aload_n 0, 1) := by decide +kernel
theorem dX8_init_16 : decode cX8_init 16 = .ok (.new 16, 3) := by decide +kernel
theorem dX8_init_19 : decode cX8_init 19 = .ok (.dup, 1) := by decide +kernel
theorem dX8_init_20 : decode cX8_init 20 = .ok (.invokespecial 18, 3) := by decide +kernel
theorem dX8_init_23 : decode cX8_init 23 = .ok (.putfield 19, 3) := by decide +kernel
theorem dX8_init_26 : decode cX8_init 26 = .ok (.aload_n 0, 1) := by decide +kernel
theorem dX8_init_27 : decode cX8_init 27 = .ok (.new 16, 3) := by decide +kernel
theorem dX8_init_30 : decode cX8_init 30 = .ok (.dup, 1) := by decide +kernel
theorem dX8_init_31 : decode cX8_init 31 = .ok (.invokespecial 18, 3) := by decide +kernel
theorem dX8_init_34 : decode cX8_init 34 = .ok (.putfield 23, 3) := by decide +kernel
theorem dX8_init_37 : decode cX8_init 37 = .ok (.aload_n 0, 1) := by decide +kernel
theorem dX8_init_38 : decode cX8_init 38 = .ok (.new 26, 3) := by decide +kernel
theorem dX8_init_41 : decode cX8_init 41 = .ok (.dup, 1) := by decide +kernel
theorem dX8_init_42 : decode cX8_init 42 = .ok (.invokespecial 28, 3) := by decide +kernel
theorem dX8_init_45 : decode cX8_init 45 = .ok (.putfield 29, 3) := by decide +kernel
theorem dX8_init_48 : decode cX8_init 48 = .ok (.aload_n 0, 1) := by decide +kernel
theorem dX8_init_49 : decode cX8_init 49 = .ok (.new 26, 3) := by decide +kernel
theorem dX8_init_52 : decode cX8_init 52 = .ok (.dup, 1) := by decide +kernel
theorem dX8_init_53 : decode cX8_init 53 = .ok (.invokespecial 28, 3) := by decide +kernel
theorem dX8_init_56 : decode cX8_init 56 = .ok (.putfield 33, 3) := by decide +kernel
theorem dX8_init_59 : decode cX8_init 59 = .ok (.aload_n 0, 1) := by decide +kernel
theorem dX8_init_60 : decode cX8_init 60 = .ok (.iconst 5, 1) := by decide +kernel
theorem dX8_init_61 : decode cX8_init 61 = .ok (.newarray .int, 2) := by decide +kernel
theorem dX8_init_63 : decode cX8_init 63 = .ok (.putfield 36, 3) := by decide +kernel
theorem dX8_init_66 : decode cX8_init 66 = .ok (.aload_n 0, 1) := by decide +kernel
theorem dX8_init_67 : decode cX8_init 67 = .ok (.new 40, 3) := by decide +kernel
theorem dX8_init_70 : decode cX8_init 70 = .ok (.dup, 1) := by decide +kernel
theorem dX8_init_71 : decode cX8_init 71 = .ok (.invokespecial 42, 3) := by decide +kernel
theorem dX8_init_74 : decode cX8_init 74 = .ok (.putfield 43, 3) := by decide +kernel
theorem dX8_init_77 : decode cX8_init 77 = .ok (.aload_n 0, 1) := by decide +kernel
theorem dX8_init_78 : decode cX8_init 78 = .ok (.new 47, 3) := by decide +kernel
theorem dX8_init_81 : decode cX8_init 81 = .ok (.dup, 1) := by decide +kernel
theorem dX8_init_82 : decode cX8_init 82 = .ok (.invokespecial 49, 3) := by decide +kernel
theorem dX8_init_85 : decode cX8_init 85 = .ok (.putfield 50, 3) := by decide +kernel
theorem dX8_init_88 : decode cX8_init 88 = .ok (.aload_n 0, 1) := by decide +kernel
theorem dX8_init_89 : decode cX8_init 89 = .ok (.new 54, 3) := by decide +kernel
theorem dX8_init_92 : decode cX8_init 92 = .ok (.dup, 1) := by decide +kernel
theorem dX8_init_93 : decode cX8_init 93 = .ok (.invokespecial 56, 3) := by decide +kernel
theorem dX8_init_96 : decode cX8_init 96 = .ok (.putfield 57, 3) := by decide +kernel
theorem dX8_init_99 : decode cX8_init 99 = .ok (.aload_n 0, 1) := by decide +kernel
theorem dX8_init_100 : decode cX8_init 100 = .ok (.new 61, 3) := by decide +kernel
theorem dX8_init_103 : decode cX8_init 103 = .ok (.dup, 1) := by decide +kernel
theorem dX8_init_104 : decode cX8_init 104 = .ok (.invokespecial 63, 3) := by decide +kernel
theorem dX8_init_107 : decode cX8_init 107 = .ok (.putfield 64, 3) := by decide +kernel
theorem dX8_init_110 : decode cX8_init 110 = .ok (.iconst 0, 1) := by decide +kernel
theorem dX8_init_111 : decode cX8_init 111 = .ok (.istore_n 1, 1) := by decide +kernel
theorem dX8_init_112 : decode cX8_init 112 = .ok (.iload_n 1, 1) := by decide +kernel
theorem dX8_init_113 : decode cX8_init 113 = .ok (.ldc 68, 2) := by decide +kernel
theorem dX8_init_115 : decode cX8_init 115 = .ok (.invokevirtual 70, 3) := by decide +kernel
theorem dX8_init_118 : decode cX8_init 118 = .ok (.if_icmp .ge 24, 3) := by decide +kernel
theorem dX8_init_121 : decode cX8_init 121 = .ok (.aload_n 0, 1) := by decide +kernel
theorem dX8_init_122 : decode cX8_init 122 = .ok (.getfield 10, 3) := by decide +kernel
theorem dX8_init_125 : decode cX8_init 125 = .ok (.iconst 1, 1) := by decide +kernel
theorem dX8_init_126 : decode cX8_init 126 = .ok (.ldc 68, 2) := by decide +kernel
theorem dX8_init_128 : decode cX8_init 128 = .ok (.iload_n 1, 1) := by decide +kernel
theorem dX8_init_129 : decode cX8_init 129 = .ok (.invokevirtual 76, 3) := by decide +kernel
theorem dX8_init_132 : decode cX8_init 132 = .ok (.i2l, 1) := by decide +kernel
theorem dX8_init_133 : decode cX8_init 133 = .ok (.invokevirtual 80, 3) := by decide +kernel
theorem dX8_init_136 : decode cX8_init 136 = .ok (.iinc 1 1, 3) := by decide +kernel
theorem dX8_init_139 : decode cX8_init 139 = .ok (.goto (-27), 3) := by decide +kernel
theorem dX8_init_142 : decode cX8_init 142 = .ok (.aload_n 0, 1) := by decide +kernel
theorem dX8_init_143 : decode cX8_init 143 = .ok (.invokevirtual 84, 3) := by decide +kernel
theorem dX8_init_146 : decode cX8_init 146 = .ok (.pop, 1) := by decide +kernel
theorem dX8_init_147 : decode cX8_init 147 = .ok (.aload_n 0, 1) := by decide +kernel
theorem dX8_init_148 : decode cX8_init 148 = .ok (.getfield 10, 3) := by decide +kernel
theorem dX8_init_151 : decode cX8_init 151 = .ok (.iconst 0, 1) := by decide +kernel
theorem dX8_init_152 : decode cX8_init 152 = .ok (.putfield 88, 3) := by decide +kernel
theorem dX8_init_155 : decode cX8_init 155 = .ok (.return_, 1) := by decide +kernel
set_option maxRecDepth 20000 in
theorem ggX8_write_X3_append : GoodIn wsX8_write wsX3_append := goodIn_r _ [7, 8, 9, 20, 21, 22] (by decide +kernel) (by decide +kernel)
set_option maxRecDepth 20000 in
theorem gX8_write_X3_append : GoodIn wsX8_write (wsV RX8 80 RX3 yX3_append wsX3_append) := goodIn_app (goodIn_of _ (by decide +kernel)) ggX8_write_X3_append
theorem dX8_write_0 : decode cX8_write 0 = .ok (.iload_n 1, 1) := by decide +kernel
theorem dX8_write_1 : decode cX8_write 1 = .ok (.iconst 1, 1) := by decide +kernel
theorem dX8_write_2 : decode cX8_write 2 = .ok (.if_icmp .lt 9, 3) := by decide +kernel
theorem dX8_write_5 : decode cX8_write 5 = .ok (.iload_n 1, 1) := by decide +kernel
theorem dX8_write_6 : decode cX8_write 6 = .ok (.bipush 8, 2) := by decide +kernel
theorem dX8_write_8 : decode cX8_write 8 = .ok (.if_icmp .le 5, 3) := by decide +kernel
theorem dX8_write_11 : decode cX8_write 11 = .ok (.iconst (-1), 1) := by decide +kernel
theorem dX8_write_12 : decode cX8_write 12 = .ok (.ireturn, 1) := by decide +kernel
theorem dX8_write_13 : decode cX8_write 13 = .ok (.aload_n 0, 1) := by decide +kernel
theorem dX8_write_14 : decode cX8_write 14 = .ok (.getfield 10, 3) := by decide +kernel
theorem dX8_write_17 : decode cX8_write 17 = .ok (.getfield 88, 3) := by decide +kernel
theorem dX8_write_20 : decode cX8_write 20 = .ok (.iload_n 1, 1) := by decide +kernel
theorem dX8_write_21 : decode cX8_write 21 = .ok (.iadd, 1) := by decide +kernel
theorem dX8_write_22 : decode cX8_write 22 = .ok (.sipush 300, 3) := by decide +kernel
theorem dX8_write_25 : decode cX8_write 25 = .ok (.if_icmp .le 6, 3) := by decide +kernel
theorem dX8_write_28 : decode cX8_write 28 = .ok (.bipush (-3), 2) := by decide +kernel
theorem dX8_write_30 : decode cX8_write 30 = .ok (.ireturn, 1) := by decide +kernel
theorem dX8_write_31 : decode cX8_write 31 = .ok (.aload_n 0, 1) := by decide +kernel
theorem dX8_write_32 : decode cX8_write 32 = .ok (.getfield 10, 3) := by decide +kernel
theorem dX8_write_35 : decode cX8_write 35 = .ok (.iload_n 1, 1) := by decide +kernel
theorem dX8_write_36 : decode cX8_write 36 = .ok (.lload_n 2, 1) := by decide +kernel
theorem dX8_write_37 : decode cX8_write 37 = .ok (.invokevirtual 80, 3) := by decide +kernel
theorem dX8_write_40 : decode cX8_write 40 = .ok (.aload_n 0, 1) := by decide +kernel
theorem dX8_write_41 : decode cX8_write 41 = .ok (.getfield 10, 3) := by decide +kernel
theorem dX8_write_44 : decode cX8_write 44 = .ok (.getfield 88, 3) := by decide +kernel
theorem dX8_write_47 : decode cX8_write 47 = .ok (.ireturn, 1) := by decide +kernel
theorem dX8_wipe_0 : decode cX8_wipe 0 = .ok (.aload_n 0, 1) := by decide +kernel
theorem dX8_wipe_1 : decode cX8_wipe 1 = .ok (.getfield 10, 3) := by decide +kernel
theorem dX8_wipe_4 : decode cX8_wipe 4 = .ok (.getfield 88, 3) := by decide +kernel
theorem dX8_wipe_7 : decode cX8_wipe 7 = .ok (.istore_n 1, 1) := by decide +kernel
theorem dX8_wipe_8 : decode cX8_wipe 8 = .ok (.aload_n 0, 1) := by decide +kernel
theorem dX8_wipe_9 : decode cX8_wipe 9 = .ok (.getfield 10, 3) := by decide +kernel
theorem dX8_wipe_12 : decode cX8_wipe 12 = .ok (.iconst 0, 1) := by decide +kernel
theorem dX8_wipe_13 : decode cX8_wipe 13 = .ok (.putfield 88, 3) := by decide +kernel
theorem dX8_wipe_16 : decode cX8_wipe 16 = .ok (.iload_n 1, 1) := by decide +kernel
theorem dX8_wipe_17 : decode cX8_wipe 17 = .ok (.ireturn, 1) := by decide +kernel
set_option maxRecDepth 20000 in
theorem ggX8_fault_X3_readInto : GoodIn wsX8_fault wsX3_readInto := goodIn_r _ [7, 8, 9, 10, 11, 12, 13, 14, 15, 16, 17, 18, 19, 20, 21, 22, 6, 23, 24, 25, 26, 27, 28, 29, 30, 31, 32, 33, 34, 35, 36, 37, 38, 39, 40, 41, 42, 43, 44, 45, 46, 47, 48, 49, 50, 51, 52, 53, 54, 55, 56, 57, 58, 59, 60, 61, 62, 63, 64, 65, 66, 67, 68, 69, 70, 71, 72, 73, 74, 75, 76, 77, 88, 89, 90, 91, 92, 93, 94, 95, 96, 97, 98, 99, 100, 101, 102, 103, 104] (by decide +kernel) (by decide +kernel)
set_option maxRecDepth 20000 in
theorem gX8_fault_X3_readInto : GoodIn wsX8_fault (wsV RX8 91 RX3 yX3_readInto wsX3_readInto) := goodIn_app (goodIn_of _ (by decide +kernel)) ggX8_fault_X3_readInto
theorem dX8_fault_0 : decode cX8_fault 0 = .ok (.aload_n 0, 1) := by decide +kernel
theorem dX8_fault_1 : decode cX8_fault 1 = .ok (.getfield 10, 3) := by decide +kernel
theorem dX8_fault_4 : decode cX8_fault 4 = .ok (.aload_n 0, 1) := by decide +kernel
theorem dX8_fault_5 : decode cX8_fault 5 = .ok (.getfield 23, 3) := by decide +kernel
theorem dX8_fault_8 : decode cX8_fault 8 = .ok (.invokevirtual 91, 3) := by decide +kernel
theorem dX8_fault_11 : decode cX8_fault 11 = .ok (.ireturn, 1) := by decide +kernel
set_option maxRecDepth 20000 in
theorem ggX8_lay_X8_layText : GoodIn wsX8_lay wsX8_layText := goodIn_r _ [7, 8, 9, 1, 10, 11, 12, 13, 14, 15, 16, 17, 18, 19, 20, 21, 22, 23, 24, 25, 26, 27, 28, 29, 30, 31, 32, 33, 34, 35, 36, 37, 38, 39, 40, 41, 42, 43, 44, 45, 46, 47, 48, 49, 50, 51, 52, 53, 54, 55, 56, 57, 58, 59, 60, 61, 62, 63, 64, 65, 66, 67, 68, 69, 70, 71, 6, 72, 73, 74, 75, 76, 77, 78, 79, 80, 81, 82, 83, 84, 85, 86, 87, 88, 89, 90, 91, 92, 93, 94, 95, 96, 97, 98, 99, 100, 101, 102, 103, 104, 105, 106, 107, 108, 109, 110, 111, 112, 113, 114, 115, 116, 117, 118, 119, 120, 121, 122, 123, 124, 125, 126, 127, 128, 129, 130, 131, 132, 133, 134, 135, 136, 137, 138, 139, 140, 141, 142, 143, 144, 145, 146, 147, 148, 149, 150, 151, 152, 153, 154, 155, 156, 157, 158, 159, 160, 161, 162, 163, 164, 165, 166, 167, 168, 169, 170, 171, 181, 182, 183, 184, 185, 186, 187, 188, 189, 190, 191, 192, 193, 194, 172, 173, 174, 175, 176, 177, 178, 179, 180, 195, 196, 197, 198, 199, 200, 201, 202, 203] (by decide +kernel) (by decide +kernel)
set_option maxRecDepth 20000 in
theorem gX8_lay_X8_layText : GoodIn wsX8_lay (wsV RX8 84 RX8 yX8_layText wsX8_layText) := goodIn_app (goodIn_of _ (by decide +kernel)) ggX8_lay_X8_layText
theorem dX8_lay_0 : decode cX8_lay 0 = .ok (.aload_n 0, 1) := by decide +kernel
theorem dX8_lay_1 : decode cX8_lay 1 = .ok (.invokevirtual 84, 3) := by decide +kernel
theorem dX8_lay_4 : decode cX8_lay 4 = .ok (.ifCond .eq 13, 3) := by decide +kernel
theorem dX8_lay_7 : decode cX8_lay 7 = .ok (.aload_n 0, 1) := by decide +kernel
theorem dX8_lay_8 : decode cX8_lay 8 = .ok (.getfield 19, 3) := by decide +kernel
theorem dX8_lay_11 : decode cX8_lay 11 = .ok (.getfield 95, 3) := by decide +kernel
theorem dX8_lay_14 : decode cX8_lay 14 = .ok (.goto 5, 3) := by decide +kernel
theorem dX8_lay_17 : decode cX8_lay 17 = .ok (.bipush (-2), 2) := by decide +kernel
theorem dX8_lay_19 : decode cX8_lay 19 = .ok (.ireturn, 1) := by decide +kernel
set_option maxRecDepth 20000 in
theorem ggX8_place_X7_hasPlace : GoodIn wsX8_place wsX7_hasPlace := goodIn_r _ [8, 9, 20, 21, 22, 23, 24, 25, 26, 27, 28] (by decide +kernel) (by decide +kernel)
set_option maxRecDepth 20000 in
theorem gX8_place_X7_hasPlace : GoodIn wsX8_place (wsV RX8 98 RX7 yX7_hasPlace wsX7_hasPlace) := goodIn_app (goodIn_of _ (by decide +kernel)) ggX8_place_X7_hasPlace
theorem dX8_place_0 : decode cX8_place 0 = .ok (.aload_n 0, 1) := by decide +kernel
theorem dX8_place_1 : decode cX8_place 1 = .ok (.getfield 19, 3) := by decide +kernel
theorem dX8_place_4 : decode cX8_place 4 = .ok (.iload_n 1, 1) := by decide +kernel
theorem dX8_place_5 : decode cX8_place 5 = .ok (.invokevirtual 98, 3) := by decide +kernel
theorem dX8_place_8 : decode cX8_place 8 = .ok (.ifCond .ne 5, 3) := by decide +kernel
theorem dX8_place_11 : decode cX8_place 11 = .ok (.iconst (-1), 1) := by decide +kernel
theorem dX8_place_12 : decode cX8_place 12 = .ok (.ireturn, 1) := by decide +kernel
theorem dX8_place_13 : decode cX8_place 13 = .ok (.iload_n 2, 1) := by decide +kernel
theorem dX8_place_14 : decode cX8_place 14 = .ok (.lookupswitch 46 #[(0, 26), (1, 36)], 26) := by decide +kernel
theorem dX8_place_40 : decode cX8_place 40 = .ok (.aload_n 0, 1) := by decide +kernel
theorem dX8_place_41 : decode cX8_place 41 = .ok (.getfield 19, 3) := by decide +kernel
theorem dX8_place_44 : decode cX8_place 44 = .ok (.getfield 102, 3) := by decide +kernel
theorem dX8_place_47 : decode cX8_place 47 = .ok (.iload_n 1, 1) := by decide +kernel
theorem dX8_place_48 : decode cX8_place 48 = .ok (.iaload, 1) := by decide +kernel
theorem dX8_place_49 : decode cX8_place 49 = .ok (.ireturn, 1) := by decide +kernel
theorem dX8_place_50 : decode cX8_place 50 = .ok (.aload_n 0, 1) := by decide +kernel
theorem dX8_place_51 : decode cX8_place 51 = .ok (.getfield 19, 3) := by decide +kernel
theorem dX8_place_54 : decode cX8_place 54 = .ok (.getfield 105, 3) := by decide +kernel
theorem dX8_place_57 : decode cX8_place 57 = .ok (.iload_n 1, 1) := by decide +kernel
theorem dX8_place_58 : decode cX8_place 58 = .ok (.iaload, 1) := by decide +kernel
theorem dX8_place_59 : decode cX8_place 59 = .ok (.ireturn, 1) := by decide +kernel
theorem dX8_place_60 : decode cX8_place 60 = .ok (.iconst (-1), 1) := by decide +kernel
theorem dX8_place_61 : decode cX8_place 61 = .ok (.ireturn, 1) := by decide +kernel
set_option maxRecDepth 20000 in
theorem ggX8_skin_X7_hasSkin : GoodIn wsX8_skin wsX7_hasSkin := goodIn_r _ [12, 13, 24, 25, 26, 27, 28, 29, 30, 31, 32] (by decide +kernel) (by decide +kernel)
set_option maxRecDepth 20000 in
theorem gX8_skin_X7_hasSkin : GoodIn wsX8_skin (wsV RX8 108 RX7 yX7_hasSkin wsX7_hasSkin) := goodIn_app (goodIn_of _ (by decide +kernel)) ggX8_skin_X7_hasSkin
theorem dX8_skin_0 : decode cX8_skin 0 = .ok (.aload_n 0, 1) := by decide +kernel
theorem dX8_skin_1 : decode cX8_skin 1 = .ok (.getfield 19, 3) := by decide +kernel
theorem dX8_skin_4 : decode cX8_skin 4 = .ok (.iload_n 1, 1) := by decide +kernel
theorem dX8_skin_5 : decode cX8_skin 5 = .ok (.invokevirtual 108, 3) := by decide +kernel
theorem dX8_skin_8 : decode cX8_skin 8 = .ok (.ifCond .ne 5, 3) := by decide +kernel
theorem dX8_skin_11 : decode cX8_skin 11 = .ok (.iconst (-1), 1) := by decide +kernel
theorem dX8_skin_12 : decode cX8_skin 12 = .ok (.ireturn, 1) := by decide +kernel
theorem dX8_skin_13 : decode cX8_skin 13 = .ok (.iload_n 2, 1) := by decide +kernel
theorem dX8_skin_14 : decode cX8_skin 14 = .ok (.tableswitch 73 0 3 #[30, 43, 53, 63], 30) := by decide +kernel
theorem dX8_skin_44 : decode cX8_skin 44 = .ok (.aload_n 0, 1) := by decide +kernel
theorem dX8_skin_45 : decode cX8_skin 45 = .ok (.getfield 19, 3) := by decide +kernel
theorem dX8_skin_48 : decode cX8_skin 48 = .ok (.getfield 111, 3) := by decide +kernel
theorem dX8_skin_51 : decode cX8_skin 51 = .ok (.getfield 115, 3) := by decide +kernel
theorem dX8_skin_54 : decode cX8_skin 54 = .ok (.iload_n 1, 1) := by decide +kernel
theorem dX8_skin_55 : decode cX8_skin 55 = .ok (.iaload, 1) := by decide +kernel
theorem dX8_skin_56 : decode cX8_skin 56 = .ok (.ireturn, 1) := by decide +kernel
theorem dX8_skin_57 : decode cX8_skin 57 = .ok (.aload_n 0, 1) := by decide +kernel
theorem dX8_skin_58 : decode cX8_skin 58 = .ok (.getfield 19, 3) := by decide +kernel
theorem dX8_skin_61 : decode cX8_skin 61 = .ok (.getfield 120, 3) := by decide +kernel
theorem dX8_skin_64 : decode cX8_skin 64 = .ok (.iload_n 1, 1) := by decide +kernel
theorem dX8_skin_65 : decode cX8_skin 65 = .ok (.iaload, 1) := by decide +kernel
theorem dX8_skin_66 : decode cX8_skin 66 = .ok (.ireturn, 1) := by decide +kernel
theorem dX8_skin_67 : decode cX8_skin 67 = .ok (.aload_n 0, 1) := by decide +kernel
theorem dX8_skin_68 : decode cX8_skin 68 = .ok (.getfield 19, 3) := by decide +kernel
theorem dX8_skin_71 : decode cX8_skin 71 = .ok (.getfield 123, 3) := by decide +kernel
theorem dX8_skin_74 : decode cX8_skin 74 = .ok (.iload_n 1, 1) := by decide +kernel
theorem dX8_skin_75 : decode cX8_skin 75 = .ok (.iaload, 1) := by decide +kernel
theorem dX8_skin_76 : decode cX8_skin 76 = .ok (.ireturn, 1) := by decide +kernel
theorem dX8_skin_77 : decode cX8_skin 77 = .ok (.aload_n 0, 1) := by decide +kernel
theorem dX8_skin_78 : decode cX8_skin 78 = .ok (.getfield 29, 3) := by decide +kernel
theorem dX8_skin_81 : decode cX8_skin 81 = .ok (.getfield 126, 3) := by decide +kernel
theorem dX8_skin_84 : decode cX8_skin 84 = .ok (.iload_n 1, 1) := by decide +kernel
theorem dX8_skin_85 : decode cX8_skin 85 = .ok (.iaload, 1) := by decide +kernel
theorem dX8_skin_86 : decode cX8_skin 86 = .ok (.ireturn, 1) := by decide +kernel
theorem dX8_skin_87 : decode cX8_skin 87 = .ok (.iconst (-1), 1) := by decide +kernel
theorem dX8_skin_88 : decode cX8_skin 88 = .ok (.ireturn, 1) := by decide +kernel
set_option maxRecDepth 20000 in
theorem ggX8_where_X7_hasSkin : GoodIn wsX8_where wsX7_hasSkin := goodIn_r _ [8, 9, 35, 36, 37, 38, 39, 40, 41, 42, 43] (by decide +kernel) (by decide +kernel)
set_option maxRecDepth 20000 in
theorem gX8_where_X7_hasSkin : GoodIn wsX8_where (wsV RX8 108 RX7 yX7_hasSkin wsX7_hasSkin) := goodIn_app (goodIn_of _ (by decide +kernel)) ggX8_where_X7_hasSkin
set_option maxRecDepth 20000 in
theorem ggX8_where_X8_isDay : GoodIn wsX8_where wsX8_isDay := goodIn_r _ [13] (by decide +kernel) (by decide +kernel)
set_option maxRecDepth 20000 in
theorem gX8_where_X8_isDay : GoodIn wsX8_where (va_wsS RX8 129 yX8_isDay wsX8_isDay) := goodIn_app (goodIn_of _ (by decide +kernel)) ggX8_where_X8_isDay
set_option maxRecDepth 20000 in
theorem ggX8_where_X1_isFoundBefore : GoodIn wsX8_where wsX1_isFoundBefore := goodIn_r _ [18, 19, 20, 31, 32, 33, 34] (by decide +kernel) (by decide +kernel)
set_option maxRecDepth 20000 in
theorem gX8_where_X1_isFoundBefore : GoodIn wsX8_where (wsV RX8 132 RX1 yX1_isFoundBefore wsX1_isFoundBefore) := goodIn_app (goodIn_of _ (by decide +kernel)) ggX8_where_X1_isFoundBefore
theorem dX8_where_0 : decode cX8_where 0 = .ok (.aload_n 0, 1) := by decide +kernel
theorem dX8_where_1 : decode cX8_where 1 = .ok (.getfield 19, 3) := by decide +kernel
theorem dX8_where_4 : decode cX8_where 4 = .ok (.iload_n 1, 1) := by decide +kernel
theorem dX8_where_5 : decode cX8_where 5 = .ok (.invokevirtual 108, 3) := by decide +kernel
theorem dX8_where_8 : decode cX8_where 8 = .ok (.ifCond .eq 10, 3) := by decide +kernel
theorem dX8_where_11 : decode cX8_where 11 = .ok (.iload_n 2, 1) := by decide +kernel
theorem dX8_where_12 : decode cX8_where 12 = .ok (.invokestatic 129, 3) := by decide +kernel
theorem dX8_where_15 : decode cX8_where 15 = .ok (.ifCond .ne 5, 3) := by decide +kernel
theorem dX8_where_18 : decode cX8_where 18 = .ok (.iconst (-1), 1) := by decide +kernel
theorem dX8_where_19 : decode cX8_where 19 = .ok (.ireturn, 1) := by decide +kernel
theorem dX8_where_20 : decode cX8_where 20 = .ok (.aload_n 0, 1) := by decide +kernel
theorem dX8_where_21 : decode cX8_where 21 = .ok (.getfield 29, 3) := by decide +kernel
theorem dX8_where_24 : decode cX8_where 24 = .ok (.iload_n 1, 1) := by decide +kernel
theorem dX8_where_25 : decode cX8_where 25 = .ok (.iload_n 2, 1) := by decide +kernel
theorem dX8_where_26 : decode cX8_where 26 = .ok (.invokevirtual 132, 3) := by decide +kernel
theorem dX8_where_29 : decode cX8_where 29 = .ok (.ifCond .eq 8, 3) := by decide +kernel
theorem dX8_where_32 : decode cX8_where 32 = .ok (.bipush (-4), 2) := by decide +kernel
theorem dX8_where_34 : decode cX8_where 34 = .ok (.goto 14, 3) := by decide +kernel
theorem dX8_where_37 : decode cX8_where 37 = .ok (.aload_n 0, 1) := by decide +kernel
theorem dX8_where_38 : decode cX8_where 38 = .ok (.getfield 29, 3) := by decide +kernel
theorem dX8_where_41 : decode cX8_where 41 = .ok (.getfield 136, 3) := by decide +kernel
theorem dX8_where_44 : decode cX8_where 44 = .ok (.iload_n 1, 1) := by decide +kernel
theorem dX8_where_45 : decode cX8_where 45 = .ok (.aaload, 1) := by decide +kernel
theorem dX8_where_46 : decode cX8_where 46 = .ok (.iload_n 2, 1) := by decide +kernel
theorem dX8_where_47 : decode cX8_where 47 = .ok (.iaload, 1) := by decide +kernel
theorem dX8_where_48 : decode cX8_where 48 = .ok (.ireturn, 1) := by decide +kernel
set_option maxRecDepth 20000 in
theorem ggX8_size_X7_hasSkin : GoodIn wsX8_size wsX7_hasSkin := goodIn_r _ [7, 8, 36, 37, 38, 39, 40, 41, 42, 43, 44] (by decide +kernel) (by decide +kernel)
set_option maxRecDepth 20000 in
theorem gX8_size_X7_hasSkin : GoodIn wsX8_size (wsV RX8 108 RX7 yX7_hasSkin wsX7_hasSkin) := goodIn_app (goodIn_of _ (by decide +kernel)) ggX8_size_X7_hasSkin
set_option maxRecDepth 20000 in
theorem ggX8_size_X8_isDay : GoodIn wsX8_size wsX8_isDay := goodIn_r _ [12] (by decide +kernel) (by decide +kernel)
set_option maxRecDepth 20000 in
theorem gX8_size_X8_isDay : GoodIn wsX8_size (va_wsS RX8 129 yX8_isDay wsX8_isDay) := goodIn_app (goodIn_of _ (by decide +kernel)) ggX8_size_X8_isDay
set_option maxRecDepth 20000 in
theorem ggX8_size_X1_isFoundBefore : GoodIn wsX8_size wsX1_isFoundBefore := goodIn_r _ [17, 18, 19, 45, 46, 47, 48] (by decide +kernel) (by decide +kernel)
set_option maxRecDepth 20000 in
theorem gX8_size_X1_isFoundBefore : GoodIn wsX8_size (wsV RX8 132 RX1 yX1_isFoundBefore wsX1_isFoundBefore) := goodIn_app (goodIn_of _ (by decide +kernel)) ggX8_size_X1_isFoundBefore
set_option maxRecDepth 20000 in
theorem ggX8_size_X7_girthOn : GoodIn wsX8_size wsX7_girthOn := goodIn_r _ [23, 24, 25, 36, 37, 38, 39, 40, 41, 42, 43, 44] (by decide +kernel) (by decide +kernel)
set_option maxRecDepth 20000 in
theorem gX8_size_X7_girthOn : GoodIn wsX8_size (wsV RX8 140 RX7 yX7_girthOn wsX7_girthOn) := goodIn_app (goodIn_of _ (by decide +kernel)) ggX8_size_X7_girthOn
theorem dX8_size_0 : decode cX8_size 0 = .ok (.aload_n 0, 1) := by decide +kernel
theorem dX8_size_1 : decode cX8_size 1 = .ok (.getfield 19, 3) := by decide +kernel
theorem dX8_size_4 : decode cX8_size 4 = .ok (.iload_n 1, 1) := by decide +kernel
theorem dX8_size_5 : decode cX8_size 5 = .ok (.invokevirtual 108, 3) := by decide +kernel
theorem dX8_size_8 : decode cX8_size 8 = .ok (.ifCond .eq 10, 3) := by decide +kernel
theorem dX8_size_11 : decode cX8_size 11 = .ok (.iload_n 2, 1) := by decide +kernel
theorem dX8_size_12 : decode cX8_size 12 = .ok (.invokestatic 129, 3) := by decide +kernel
theorem dX8_size_15 : decode cX8_size 15 = .ok (.ifCond .ne 5, 3) := by decide +kernel
theorem dX8_size_18 : decode cX8_size 18 = .ok (.iconst (-1), 1) := by decide +kernel
theorem dX8_size_19 : decode cX8_size 19 = .ok (.ireturn, 1) := by decide +kernel
theorem dX8_size_20 : decode cX8_size 20 = .ok (.aload_n 0, 1) := by decide +kernel
theorem dX8_size_21 : decode cX8_size 21 = .ok (.getfield 29, 3) := by decide +kernel
theorem dX8_size_24 : decode cX8_size 24 = .ok (.iload_n 1, 1) := by decide +kernel
theorem dX8_size_25 : decode cX8_size 25 = .ok (.iload_n 2, 1) := by decide +kernel
theorem dX8_size_26 : decode cX8_size 26 = .ok (.invokevirtual 132, 3) := by decide +kernel
theorem dX8_size_29 : decode cX8_size 29 = .ok (.ifCond .eq 8, 3) := by decide +kernel
theorem dX8_size_32 : decode cX8_size 32 = .ok (.bipush (-4), 2) := by decide +kernel
theorem dX8_size_34 : decode cX8_size 34 = .ok (.goto 12, 3) := by decide +kernel
theorem dX8_size_37 : decode cX8_size 37 = .ok (.aload_n 0, 1) := by decide +kernel
theorem dX8_size_38 : decode cX8_size 38 = .ok (.getfield 19, 3) := by decide +kernel
theorem dX8_size_41 : decode cX8_size 41 = .ok (.iload_n 1, 1) := by decide +kernel
theorem dX8_size_42 : decode cX8_size 42 = .ok (.iload_n 2, 1) := by decide +kernel
theorem dX8_size_43 : decode cX8_size 43 = .ok (.invokevirtual 140, 3) := by decide +kernel
theorem dX8_size_46 : decode cX8_size 46 = .ok (.ireturn, 1) := by decide +kernel
set_option maxRecDepth 20000 in
theorem ggX8_woman_X7_hasSkin : GoodIn wsX8_woman wsX7_hasSkin := goodIn_r _ [9, 10, 36, 37, 38, 39, 40, 41, 42, 43, 44] (by decide +kernel) (by decide +kernel)
set_option maxRecDepth 20000 in
theorem gX8_woman_X7_hasSkin : GoodIn wsX8_woman (wsV RX8 108 RX7 yX7_hasSkin wsX7_hasSkin) := goodIn_app (goodIn_of _ (by decide +kernel)) ggX8_woman_X7_hasSkin
set_option maxRecDepth 20000 in
theorem ggX8_woman_X1_leaveDay : GoodIn wsX8_woman wsX1_leaveDay := goodIn_r _ [15, 16, 17, 18, 19, 8, 20, 21, 32, 33, 34, 35, 36, 37, 38, 39, 40, 41, 42, 43, 44] (by decide +kernel) (by decide +kernel)
set_option maxRecDepth 20000 in
theorem gX8_woman_X1_leaveDay : GoodIn wsX8_woman (wsV RX8 150 RX1 yX1_leaveDay wsX1_leaveDay) := goodIn_app (goodIn_of _ (by decide +kernel)) ggX8_woman_X1_leaveDay
theorem dX8_woman_0 : decode cX8_woman 0 = .ok (.aload_n 0, 1) := by decide +kernel
theorem dX8_woman_1 : decode cX8_woman 1 = .ok (.getfield 19, 3) := by decide +kernel
theorem dX8_woman_4 : decode cX8_woman 4 = .ok (.iload_n 1, 1) := by decide +kernel
theorem dX8_woman_5 : decode cX8_woman 5 = .ok (.invokevirtual 108, 3) := by decide +kernel
theorem dX8_woman_8 : decode cX8_woman 8 = .ok (.ifCond .ne 5, 3) := by decide +kernel
theorem dX8_woman_11 : decode cX8_woman 11 = .ok (.iconst (-1), 1) := by decide +kernel
theorem dX8_woman_12 : decode cX8_woman 12 = .ok (.ireturn, 1) := by decide +kernel
theorem dX8_woman_13 : decode cX8_woman 13 = .ok (.iload_n 2, 1) := by decide +kernel
theorem dX8_woman_14 : decode cX8_woman 14 = .ok (.tableswitch 59 0 2 #[26, 36, 46], 26) := by decide +kernel
theorem dX8_woman_40 : decode cX8_woman 40 = .ok (.aload_n 0, 1) := by decide +kernel
theorem dX8_woman_41 : decode cX8_woman 41 = .ok (.getfield 29, 3) := by decide +kernel
theorem dX8_woman_44 : decode cX8_woman 44 = .ok (.getfield 144, 3) := by decide +kernel
theorem dX8_woman_47 : decode cX8_woman 47 = .ok (.iload_n 1, 1) := by decide +kernel
theorem dX8_woman_48 : decode cX8_woman 48 = .ok (.iaload, 1) := by decide +kernel
theorem dX8_woman_49 : decode cX8_woman 49 = .ok (.ireturn, 1) := by decide +kernel
theorem dX8_woman_50 : decode cX8_woman 50 = .ok (.aload_n 0, 1) := by decide +kernel
theorem dX8_woman_51 : decode cX8_woman 51 = .ok (.getfield 29, 3) := by decide +kernel
theorem dX8_woman_54 : decode cX8_woman 54 = .ok (.getfield 147, 3) := by decide +kernel
theorem dX8_woman_57 : decode cX8_woman 57 = .ok (.iload_n 1, 1) := by decide +kernel
theorem dX8_woman_58 : decode cX8_woman 58 = .ok (.iaload, 1) := by decide +kernel
theorem dX8_woman_59 : decode cX8_woman 59 = .ok (.ireturn, 1) := by decide +kernel
theorem dX8_woman_60 : decode cX8_woman 60 = .ok (.aload_n 0, 1) := by decide +kernel
theorem dX8_woman_61 : decode cX8_woman 61 = .ok (.getfield 29, 3) := by decide +kernel
theorem dX8_woman_64 : decode cX8_woman 64 = .ok (.iload_n 1, 1) := by decide +kernel
theorem dX8_woman_65 : decode cX8_woman 65 = .ok (.aload_n 0, 1) := by decide +kernel
theorem dX8_woman_66 : decode cX8_woman 66 = .ok (.getfield 19, 3) := by decide +kernel
theorem dX8_woman_69 : decode cX8_woman 69 = .ok (.invokevirtual 150, 3) := by decide +kernel
theorem dX8_woman_72 : decode cX8_woman 72 = .ok (.ireturn, 1) := by decide +kernel
theorem dX8_woman_73 : decode cX8_woman 73 = .ok (.iconst (-1), 1) := by decide +kernel
theorem dX8_woman_74 : decode cX8_woman 74 = .ok (.ireturn, 1) := by decide +kernel
set_option maxRecDepth 20000 in
theorem ggX8_fits_X7_hasSkin : GoodIn wsX8_fits wsX7_hasSkin := goodIn_r _ [7, 8, 37, 38, 39, 40, 41, 42, 43, 44, 45] (by decide +kernel) (by decide +kernel)
set_option maxRecDepth 20000 in
theorem gX8_fits_X7_hasSkin : GoodIn wsX8_fits (wsV RX8 108 RX7 yX7_hasSkin wsX7_hasSkin) := goodIn_app (goodIn_of _ (by decide +kernel)) ggX8_fits_X7_hasSkin
set_option maxRecDepth 20000 in
theorem ggX8_fits_X8_isDay : GoodIn wsX8_fits wsX8_isDay := goodIn_r _ [12] (by decide +kernel) (by decide +kernel)
set_option maxRecDepth 20000 in
theorem gX8_fits_X8_isDay : GoodIn wsX8_fits (va_wsS RX8 129 yX8_isDay wsX8_isDay) := goodIn_app (goodIn_of _ (by decide +kernel)) ggX8_fits_X8_isDay
set_option maxRecDepth 20000 in
theorem ggX8_fits_X7_suits : GoodIn wsX8_fits wsX7_suits := goodIn_r _ [16, 17, 18, 19, 20, 21, 22, 23, 24, 6, 25, 26, 37, 38, 39, 40, 41, 42, 43, 44, 45] (by decide +kernel) (by decide +kernel)
set_option maxRecDepth 20000 in
theorem gX8_fits_X7_suits : GoodIn wsX8_fits (wsV RX8 154 RX7 yX7_suits wsX7_suits) := goodIn_app (goodIn_of _ (by decide +kernel)) ggX8_fits_X7_suits
theorem dX8_fits_0 : decode cX8_fits 0 = .ok (.aload_n 0, 1) := by decide +kernel
theorem dX8_fits_1 : decode cX8_fits 1 = .ok (.getfield 19, 3) := by decide +kernel
theorem dX8_fits_4 : decode cX8_fits 4 = .ok (.iload_n 1, 1) := by decide +kernel
theorem dX8_fits_5 : decode cX8_fits 5 = .ok (.invokevirtual 108, 3) := by decide +kernel
theorem dX8_fits_8 : decode cX8_fits 8 = .ok (.ifCond .eq 10, 3) := by decide +kernel
theorem dX8_fits_11 : decode cX8_fits 11 = .ok (.iload_n 2, 1) := by decide +kernel
theorem dX8_fits_12 : decode cX8_fits 12 = .ok (.invokestatic 129, 3) := by decide +kernel
theorem dX8_fits_15 : decode cX8_fits 15 = .ok (.ifCond .ne 5, 3) := by decide +kernel
theorem dX8_fits_18 : decode cX8_fits 18 = .ok (.iconst (-1), 1) := by decide +kernel
theorem dX8_fits_19 : decode cX8_fits 19 = .ok (.ireturn, 1) := by decide +kernel
theorem dX8_fits_20 : decode cX8_fits 20 = .ok (.iconst 0, 1) := by decide +kernel
theorem dX8_fits_21 : decode cX8_fits 21 = .ok (.istore_n 3, 1) := by decide +kernel
theorem dX8_fits_22 : decode cX8_fits 22 = .ok (.iconst 0, 1) := by decide +kernel
theorem dX8_fits_23 : decode cX8_fits 23 = .ok (.istore 4, 2) := by decide +kernel
theorem dX8_fits_25 : decode cX8_fits 25 = .ok (.iload 4, 2) := by decide +kernel
theorem dX8_fits_27 : decode cX8_fits 27 = .ok (.aload_n 0, 1) := by decide +kernel
theorem dX8_fits_28 : decode cX8_fits 28 = .ok (.getfield 19, 3) := by decide +kernel
theorem dX8_fits_31 : decode cX8_fits 31 = .ok (.getfield 95, 3) := by decide +kernel
theorem dX8_fits_34 : decode cX8_fits 34 = .ok (.if_icmp .ge 30, 3) := by decide +kernel
theorem dX8_fits_37 : decode cX8_fits 37 = .ok (.aload_n 0, 1) := by decide +kernel
theorem dX8_fits_38 : decode cX8_fits 38 = .ok (.getfield 19, 3) := by decide +kernel
theorem dX8_fits_41 : decode cX8_fits 41 = .ok (.iload_n 1, 1) := by decide +kernel
theorem dX8_fits_42 : decode cX8_fits 42 = .ok (.iload 4, 2) := by decide +kernel
theorem dX8_fits_44 : decode cX8_fits 44 = .ok (.iload_n 2, 1) := by decide +kernel
theorem dX8_fits_45 : decode cX8_fits 45 = .ok (.invokevirtual 154, 3) := by decide +kernel
theorem dX8_fits_48 : decode cX8_fits 48 = .ok (.ifCond .eq 10, 3) := by decide +kernel
theorem dX8_fits_51 : decode cX8_fits 51 = .ok (.iload_n 3, 1) := by decide +kernel
theorem dX8_fits_52 : decode cX8_fits 52 = .ok (.iconst 1, 1) := by decide +kernel
theorem dX8_fits_53 : decode cX8_fits 53 = .ok (.iload 4, 2) := by decide +kernel
theorem dX8_fits_55 : decode cX8_fits 55 = .ok (.ishl, 1) := by decide +kernel
theorem dX8_fits_56 : decode cX8_fits 56 = .ok (.ior, 1) := by decide +kernel
theorem dX8_fits_57 : decode cX8_fits 57 = .ok (.istore_n 3, 1) := by decide +kernel
theorem dX8_fits_58 : decode cX8_fits 58 = .ok (.iinc 4 1, 3) := by decide +kernel
theorem dX8_fits_61 : decode cX8_fits 61 = .ok (.goto (-36), 3) := by decide +kernel
theorem dX8_fits_64 : decode cX8_fits 64 = .ok (.iload_n 3, 1) := by decide +kernel
theorem dX8_fits_65 : decode cX8_fits 65 = .ok (.ireturn, 1) := by decide +kernel
set_option maxRecDepth 20000 in
theorem ggX8_gone_X1_leaversBy : GoodIn wsX8_gone wsX1_leaversBy := goodIn_r _ [7, 8, 9, 10, 11, 6, 12, 13, 14, 15, 16, 17, 18, 19, 20, 21, 22, 23, 34, 35, 36, 37, 38, 39, 40, 41, 42, 43, 44, 45, 46] (by decide +kernel) (by decide +kernel)
set_option maxRecDepth 20000 in
theorem gX8_gone_X1_leaversBy : GoodIn wsX8_gone (wsV RX8 158 RX1 yX1_leaversBy wsX1_leaversBy) := goodIn_app (goodIn_of _ (by decide +kernel)) ggX8_gone_X1_leaversBy
theorem dX8_gone_0 : decode cX8_gone 0 = .ok (.iload_n 1, 1) := by decide +kernel
theorem dX8_gone_1 : decode cX8_gone 1 = .ok (.iconst 1, 1) := by decide +kernel
theorem dX8_gone_2 : decode cX8_gone 2 = .ok (.if_icmp .lt 9, 3) := by decide +kernel
theorem dX8_gone_5 : decode cX8_gone 5 = .ok (.iload_n 1, 1) := by decide +kernel
theorem dX8_gone_6 : decode cX8_gone 6 = .ok (.bipush 80, 2) := by decide +kernel
theorem dX8_gone_8 : decode cX8_gone 8 = .ok (.if_icmp .le 5, 3) := by decide +kernel
theorem dX8_gone_11 : decode cX8_gone 11 = .ok (.iconst (-1), 1) := by decide +kernel
theorem dX8_gone_12 : decode cX8_gone 12 = .ok (.ireturn, 1) := by decide +kernel
theorem dX8_gone_13 : decode cX8_gone 13 = .ok (.aload_n 0, 1) := by decide +kernel
theorem dX8_gone_14 : decode cX8_gone 14 = .ok (.getfield 29, 3) := by decide +kernel
theorem dX8_gone_17 : decode cX8_gone 17 = .ok (.iload_n 1, 1) := by decide +kernel
theorem dX8_gone_18 : decode cX8_gone 18 = .ok (.aload_n 0, 1) := by decide +kernel
theorem dX8_gone_19 : decode cX8_gone 19 = .ok (.getfield 19, 3) := by decide +kernel
theorem dX8_gone_22 : decode cX8_gone 22 = .ok (.invokevirtual 158, 3) := by decide +kernel
theorem dX8_gone_25 : decode cX8_gone 25 = .ok (.ireturn, 1) := by decide +kernel
set_option maxRecDepth 20000 in
theorem ggX8_best_X7_hasSkin : GoodIn wsX8_best wsX7_hasSkin := goodIn_r _ [16, 17, 92, 93, 94, 95, 96, 97, 98, 99, 100] (by decide +kernel) (by decide +kernel)
set_option maxRecDepth 20000 in
theorem gX8_best_X7_hasSkin : GoodIn wsX8_best (wsV RX8 108 RX7 yX7_hasSkin wsX7_hasSkin) := goodIn_app (goodIn_of _ (by decide +kernel)) ggX8_best_X7_hasSkin
set_option maxRecDepth 20000 in
theorem ggX8_best_X8_isZeroOrOne : GoodIn wsX8_best wsX8_isZeroOrOne := goodIn_r _ [21] (by decide +kernel) (by decide +kernel)
set_option maxRecDepth 20000 in
theorem gX8_best_X8_isZeroOrOne : GoodIn wsX8_best (va_wsS RX8 161 yX8_isZeroOrOne wsX8_isZeroOrOne) := goodIn_app (goodIn_of _ (by decide +kernel)) ggX8_best_X8_isZeroOrOne
set_option maxRecDepth 20000 in
theorem ggX8_best_X1_run : GoodIn wsX8_best wsX1_run := goodIn_r _ [26, 27, 28, 29, 30, 31, 32, 33, 34, 35, 36, 37, 38, 39, 40, 41, 42, 43, 44, 15, 45, 46, 47, 48, 49, 50, 51, 52, 53, 54, 55, 56, 57, 58, 59, 60, 61, 62, 63, 64, 65, 66, 25, 67, 68, 69, 70, 71, 72, 73, 74, 75, 76, 77, 78, 79, 80, 81, 106, 107, 108, 109, 92, 93, 94, 95, 96, 97, 98, 99, 100, 101, 102, 103, 104, 105] (by decide +kernel) (by decide +kernel)
set_option maxRecDepth 20000 in
theorem gX8_best_X1_run : GoodIn wsX8_best (wsV RX8 173 RX1 yX1_run wsX1_run) := goodIn_app (goodIn_of _ (by decide +kernel)) ggX8_best_X1_run
theorem dX8_best_0 : decode cX8_best 0 = .ok (.aload_n 0, 1) := by decide +kernel
theorem dX8_best_1 : decode cX8_best 1 = .ok (.getfield 19, 3) := by decide +kernel
theorem dX8_best_4 : decode cX8_best 4 = .ok (.iload_n 1, 1) := by decide +kernel
theorem dX8_best_5 : decode cX8_best 5 = .ok (.invokevirtual 108, 3) := by decide +kernel
theorem dX8_best_8 : decode cX8_best 8 = .ok (.ifCond .eq 10, 3) := by decide +kernel
theorem dX8_best_11 : decode cX8_best 11 = .ok (.iload_n 2, 1) := by decide +kernel
theorem dX8_best_12 : decode cX8_best 12 = .ok (.invokestatic 161, 3) := by decide +kernel
theorem dX8_best_15 : decode cX8_best 15 = .ok (.ifCond .ne 5, 3) := by decide +kernel
theorem dX8_best_18 : decode cX8_best 18 = .ok (.iconst (-1), 1) := by decide +kernel
theorem dX8_best_19 : decode cX8_best 19 = .ok (.ireturn, 1) := by decide +kernel
theorem dX8_best_20 : decode cX8_best 20 = .ok (.aload_n 0, 1) := by decide +kernel
theorem dX8_best_21 : decode cX8_best 21 = .ok (.getfield 19, 3) := by decide +kernel
theorem dX8_best_24 : decode cX8_best 24 = .ok (.getfield 111, 3) := by decide +kernel
theorem dX8_best_27 : decode cX8_best 27 = .ok (.getfield 115, 3) := by decide +kernel
theorem dX8_best_30 : decode cX8_best 30 = .ok (.iconst 0, 1) := by decide +kernel
theorem dX8_best_31 : decode cX8_best 31 = .ok (.aload_n 0, 1) := by decide +kernel
theorem dX8_best_32 : decode cX8_best 32 = .ok (.getfield 36, 3) := by decide +kernel
theorem dX8_best_35 : decode cX8_best 35 = .ok (.iconst 0, 1) := by decide +kernel
theorem dX8_best_36 : decode cX8_best 36 = .ok (.iconst 5, 1) := by decide +kernel
theorem dX8_best_37 : decode cX8_best 37 = .ok (.invokestatic 164, 3) := by decide +kernel
theorem dX8_best_40 : decode cX8_best 40 = .ok (.iconst 0, 1) := by decide +kernel
theorem dX8_best_41 : decode cX8_best 41 = .ok (.istore_n 3, 1) := by decide +kernel
theorem dX8_best_42 : decode cX8_best 42 = .ok (.iconst 0, 1) := by decide +kernel
theorem dX8_best_43 : decode cX8_best 43 = .ok (.istore 4, 2) := by decide +kernel
theorem dX8_best_45 : decode cX8_best 45 = .ok (.iconst 0, 1) := by decide +kernel
theorem dX8_best_46 : decode cX8_best 46 = .ok (.istore 5, 2) := by decide +kernel
theorem dX8_best_48 : decode cX8_best 48 = .ok (.iload 5, 2) := by decide +kernel
theorem dX8_best_50 : decode cX8_best 50 = .ok (.aload_n 0, 1) := by decide +kernel
theorem dX8_best_51 : decode cX8_best 51 = .ok (.getfield 19, 3) := by decide +kernel
theorem dX8_best_54 : decode cX8_best 54 = .ok (.getfield 170, 3) := by decide +kernel
theorem dX8_best_57 : decode cX8_best 57 = .ok (.if_icmp .ge 76, 3) := by decide +kernel
theorem dX8_best_60 : decode cX8_best 60 = .ok (.aload_n 0, 1) := by decide +kernel
theorem dX8_best_61 : decode cX8_best 61 = .ok (.getfield 36, 3) := by decide +kernel
theorem dX8_best_64 : decode cX8_best 64 = .ok (.iload_n 1, 1) := by decide +kernel
theorem dX8_best_65 : decode cX8_best 65 = .ok (.iload 5, 2) := by decide +kernel
theorem dX8_best_67 : decode cX8_best 67 = .ok (.iastore, 1) := by decide +kernel
theorem dX8_best_68 : decode cX8_best 68 = .ok (.aload_n 0, 1) := by decide +kernel
theorem dX8_best_69 : decode cX8_best 69 = .ok (.getfield 33, 3) := by decide +kernel
theorem dX8_best_72 : decode cX8_best 72 = .ok (.aload_n 0, 1) := by decide +kernel
theorem dX8_best_73 : decode cX8_best 73 = .ok (.getfield 19, 3) := by decide +kernel
theorem dX8_best_76 : decode cX8_best 76 = .ok (.aload_n 0, 1) := by decide +kernel
theorem dX8_best_77 : decode cX8_best 77 = .ok (.getfield 36, 3) := by decide +kernel
theorem dX8_best_80 : decode cX8_best 80 = .ok (.invokevirtual 173, 3) := by decide +kernel
theorem dX8_best_83 : decode cX8_best 83 = .ok (.aload_n 0, 1) := by decide +kernel
theorem dX8_best_84 : decode cX8_best 84 = .ok (.getfield 33, 3) := by decide +kernel
theorem dX8_best_87 : decode cX8_best 87 = .ok (.getfield 147, 3) := by decide +kernel
theorem dX8_best_90 : decode cX8_best 90 = .ok (.iload_n 1, 1) := by decide +kernel
theorem dX8_best_91 : decode cX8_best 91 = .ok (.iaload, 1) := by decide +kernel
theorem dX8_best_92 : decode cX8_best 92 = .ok (.bipush (-4), 2) := by decide +kernel
theorem dX8_best_94 : decode cX8_best 94 = .ok (.if_icmp .ne 8, 3) := by decide +kernel
theorem dX8_best_97 : decode cX8_best 97 = .ok (.bipush 61, 2) := by decide +kernel
theorem dX8_best_99 : decode cX8_best 99 = .ok (.goto 12, 3) := by decide +kernel
theorem dX8_best_102 : decode cX8_best 102 = .ok (.aload_n 0, 1) := by decide +kernel
theorem dX8_best_103 : decode cX8_best 103 = .ok (.getfield 33, 3) := by decide +kernel
theorem dX8_best_106 : decode cX8_best 106 = .ok (.getfield 147, 3) := by decide +kernel
theorem dX8_best_109 : decode cX8_best 109 = .ok (.iload_n 1, 1) := by decide +kernel
theorem dX8_best_110 : decode cX8_best 110 = .ok (.iaload, 1) := by decide +kernel
theorem dX8_best_111 : decode cX8_best 111 = .ok (.istore 6, 2) := by decide +kernel
theorem dX8_best_113 : decode cX8_best 113 = .ok (.iload 6, 2) := by decide +kernel
theorem dX8_best_115 : decode cX8_best 115 = .ok (.iload 4, 2) := by decide +kernel
theorem dX8_best_117 : decode cX8_best 117 = .ok (.if_icmp .le 10, 3) := by decide +kernel
theorem dX8_best_120 : decode cX8_best 120 = .ok (.iload 6, 2) := by decide +kernel
theorem dX8_best_122 : decode cX8_best 122 = .ok (.istore 4, 2) := by decide +kernel
theorem dX8_best_124 : decode cX8_best 124 = .ok (.iload 5, 2) := by decide +kernel
theorem dX8_best_126 : decode cX8_best 126 = .ok (.istore_n 3, 1) := by decide +kernel
theorem dX8_best_127 : decode cX8_best 127 = .ok (.iinc 5 1, 3) := by decide +kernel
theorem dX8_best_130 : decode cX8_best 130 = .ok (.goto (-82), 3) := by decide +kernel
theorem dX8_best_133 : decode cX8_best 133 = .ok (.iload_n 2, 1) := by decide +kernel
theorem dX8_best_134 : decode cX8_best 134 = .ok (.ifCond .ne 5, 3) := by decide +kernel
theorem dX8_best_137 : decode cX8_best 137 = .ok (.iload_n 3, 1) := by decide +kernel
theorem dX8_best_138 : decode cX8_best 138 = .ok (.ireturn, 1) := by decide +kernel
theorem dX8_best_139 : decode cX8_best 139 = .ok (.iload 4, 2) := by decide +kernel
theorem dX8_best_141 : decode cX8_best 141 = .ok (.bipush 60, 2) := by decide +kernel
theorem dX8_best_143 : decode cX8_best 143 = .ok (.if_icmp .le 8, 3) := by decide +kernel
theorem dX8_best_146 : decode cX8_best 146 = .ok (.bipush (-4), 2) := by decide +kernel
theorem dX8_best_148 : decode cX8_best 148 = .ok (.goto 5, 3) := by decide +kernel
theorem dX8_best_151 : decode cX8_best 151 = .ok (.iload 4, 2) := by decide +kernel
theorem dX8_best_153 : decode cX8_best 153 = .ok (.ireturn, 1) := by decide +kernel
set_option maxRecDepth 20000 in
theorem ggX8_hide_X7_hasSkin : GoodIn wsX8_hide wsX7_hasSkin := goodIn_r _ [9, 10, 103, 104, 105, 106, 107, 108, 109, 110, 111] (by decide +kernel) (by decide +kernel)
set_option maxRecDepth 20000 in
theorem gX8_hide_X7_hasSkin : GoodIn wsX8_hide (wsV RX8 108 RX7 yX7_hasSkin wsX7_hasSkin) := goodIn_app (goodIn_of _ (by decide +kernel)) ggX8_hide_X7_hasSkin
set_option maxRecDepth 20000 in
theorem ggX8_hide_X7_hasPlace : GoodIn wsX8_hide wsX7_hasPlace := goodIn_r _ [14, 15, 103, 104, 105, 106, 107, 108, 109, 110, 111] (by decide +kernel) (by decide +kernel)
set_option maxRecDepth 20000 in
theorem gX8_hide_X7_hasPlace : GoodIn wsX8_hide (wsV RX8 98 RX7 yX7_hasPlace wsX7_hasPlace) := goodIn_app (goodIn_of _ (by decide +kernel)) ggX8_hide_X7_hasPlace
set_option maxRecDepth 20000 in
theorem ggX8_hide_X0_note : GoodIn wsX8_hide wsX0_note := goodIn_r _ [20, 21, 22, 23, 24, 25, 26, 27, 117, 118, 119] (by decide +kernel) (by decide +kernel)
set_option maxRecDepth 20000 in
theorem gX8_hide_X0_note : GoodIn wsX8_hide (wsV RX8 177 RX0 yX0_note wsX0_note) := goodIn_app (goodIn_of _ (by decide +kernel)) ggX8_hide_X0_note
set_option maxRecDepth 20000 in
theorem ggX8_hide_X8_followCourse : GoodIn wsX8_hide wsX8_followCourse := goodIn_r _ [32, 33, 1, 2, 3, 34, 35, 36, 37, 38, 39, 40, 41, 42, 43, 44, 45, 46, 47, 48, 49, 50, 51, 52, 53, 54, 55, 56, 8, 57, 15, 58, 59, 60, 61, 62, 63, 64, 65, 66, 67, 68, 69, 70, 71, 72, 73, 74, 75, 76, 77, 78, 79, 80, 81, 82, 83, 84, 85, 86, 87, 88, 89, 90, 91, 92, 93, 94, 95, 96, 97, 98, 99, 100, 101, 102, 103, 104, 105, 106, 107, 108, 109, 110, 111, 112, 113, 114, 115, 116, 120, 121, 122, 123] (by decide +kernel) (by decide +kernel)
set_option maxRecDepth 20000 in
theorem gX8_hide_X8_followCourse : GoodIn wsX8_hide (wsV RX8 181 RX8 yX8_followCourse wsX8_followCourse) := goodIn_app (goodIn_of _ (by decide +kernel)) ggX8_hide_X8_followCourse
theorem dX8_hide_0 : decode cX8_hide 0 = .ok (.aload_n 0, 1) := by decide +kernel
theorem dX8_hide_1 : decode cX8_hide 1 = .ok (.getfield 19, 3) := by decide +kernel
theorem dX8_hide_4 : decode cX8_hide 4 = .ok (.iload_n 1, 1) := by decide +kernel
theorem dX8_hide_5 : decode cX8_hide 5 = .ok (.invokevirtual 108, 3) := by decide +kernel
theorem dX8_hide_8 : decode cX8_hide 8 = .ok (.ifCond .eq 14, 3) := by decide +kernel
theorem dX8_hide_11 : decode cX8_hide 11 = .ok (.aload_n 0, 1) := by decide +kernel
theorem dX8_hide_12 : decode cX8_hide 12 = .ok (.getfield 19, 3) := by decide +kernel
theorem dX8_hide_15 : decode cX8_hide 15 = .ok (.iload_n 2, 1) := by decide +kernel
theorem dX8_hide_16 : decode cX8_hide 16 = .ok (.invokevirtual 98, 3) := by decide +kernel
theorem dX8_hide_19 : decode cX8_hide 19 = .ok (.ifCond .ne 5, 3) := by decide +kernel
theorem dX8_hide_22 : decode cX8_hide 22 = .ok (.iconst (-1), 1) := by decide +kernel
theorem dX8_hide_23 : decode cX8_hide 23 = .ok (.ireturn, 1) := by decide +kernel
theorem dX8_hide_24 : decode cX8_hide 24 = .ok (.aload_n 0, 1) := by decide +kernel
theorem dX8_hide_25 : decode cX8_hide 25 = .ok (.getfield 19, 3) := by decide +kernel
theorem dX8_hide_28 : decode cX8_hide 28 = .ok (.getfield 111, 3) := by decide +kernel
theorem dX8_hide_31 : decode cX8_hide 31 = .ok (.getfield 115, 3) := by decide +kernel
theorem dX8_hide_34 : decode cX8_hide 34 = .ok (.iload_n 1, 1) := by decide +kernel
theorem dX8_hide_35 : decode cX8_hide 35 = .ok (.iaload, 1) := by decide +kernel
theorem dX8_hide_36 : decode cX8_hide 36 = .ok (.istore_n 3, 1) := by decide +kernel
theorem dX8_hide_37 : decode cX8_hide 37 = .ok (.aload_n 0, 1) := by decide +kernel
theorem dX8_hide_38 : decode cX8_hide 38 = .ok (.getfield 57, 3) := by decide +kernel
theorem dX8_hide_41 : decode cX8_hide 41 = .ok (.iload_n 1, 1) := by decide +kernel
theorem dX8_hide_42 : decode cX8_hide 42 = .ok (.iload_n 3, 1) := by decide +kernel
theorem dX8_hide_43 : decode cX8_hide 43 = .ok (.invokevirtual 177, 3) := by decide +kernel
theorem dX8_hide_46 : decode cX8_hide 46 = .ok (.aload_n 0, 1) := by decide +kernel
theorem dX8_hide_47 : decode cX8_hide 47 = .ok (.getfield 19, 3) := by decide +kernel
theorem dX8_hide_50 : decode cX8_hide 50 = .ok (.getfield 111, 3) := by decide +kernel
theorem dX8_hide_53 : decode cX8_hide 53 = .ok (.getfield 115, 3) := by decide +kernel
theorem dX8_hide_56 : decode cX8_hide 56 = .ok (.iload_n 1, 1) := by decide +kernel
theorem dX8_hide_57 : decode cX8_hide 57 = .ok (.iload_n 2, 1) := by decide +kernel
theorem dX8_hide_58 : decode cX8_hide 58 = .ok (.iastore, 1) := by decide +kernel
theorem dX8_hide_59 : decode cX8_hide 59 = .ok (.aload_n 0, 1) := by decide +kernel
theorem dX8_hide_60 : decode cX8_hide 60 = .ok (.invokevirtual 181, 3) := by decide +kernel
theorem dX8_hide_63 : decode cX8_hide 63 = .ok (.iload_n 3, 1) := by decide +kernel
theorem dX8_hide_64 : decode cX8_hide 64 = .ok (.ireturn, 1) := by decide +kernel
set_option maxRecDepth 20000 in
theorem ggX8_look_X7_hasSkin : GoodIn wsX8_look wsX7_hasSkin := goodIn_r _ [9, 10, 116, 117, 118, 119, 120, 121, 122, 123, 124] (by decide +kernel) (by decide +kernel)
set_option maxRecDepth 20000 in
theorem gX8_look_X7_hasSkin : GoodIn wsX8_look (wsV RX8 108 RX7 yX7_hasSkin wsX7_hasSkin) := goodIn_app (goodIn_of _ (by decide +kernel)) ggX8_look_X7_hasSkin
set_option maxRecDepth 20000 in
theorem ggX8_look_X7_hasPlace : GoodIn wsX8_look wsX7_hasPlace := goodIn_r _ [14, 15, 116, 117, 118, 119, 120, 121, 122, 123, 124] (by decide +kernel) (by decide +kernel)
set_option maxRecDepth 20000 in
theorem gX8_look_X7_hasPlace : GoodIn wsX8_look (wsV RX8 98 RX7 yX7_hasPlace wsX7_hasPlace) := goodIn_app (goodIn_of _ (by decide +kernel)) ggX8_look_X7_hasPlace
set_option maxRecDepth 20000 in
theorem ggX8_look_X8_isDay : GoodIn wsX8_look wsX8_isDay := goodIn_r _ [19] (by decide +kernel) (by decide +kernel)
set_option maxRecDepth 20000 in
theorem gX8_look_X8_isDay : GoodIn wsX8_look (va_wsS RX8 129 yX8_isDay wsX8_isDay) := goodIn_app (goodIn_of _ (by decide +kernel)) ggX8_look_X8_isDay
set_option maxRecDepth 20000 in
theorem ggX8_look_X2_addLook : GoodIn wsX8_look wsX2_addLook := goodIn_r _ [24, 25, 26, 27, 28, 125, 126, 127, 128, 129] (by decide +kernel) (by decide +kernel)
set_option maxRecDepth 20000 in
theorem gX8_look_X2_addLook : GoodIn wsX8_look (wsV RX8 184 RX2 yX2_addLook wsX2_addLook) := goodIn_app (goodIn_of _ (by decide +kernel)) ggX8_look_X2_addLook
set_option maxRecDepth 20000 in
theorem ggX8_look_X0_note : GoodIn wsX8_look wsX0_note := goodIn_r _ [33, 34, 35, 36, 37, 38, 39, 40, 130, 131, 132] (by decide +kernel) (by decide +kernel)
set_option maxRecDepth 20000 in
theorem gX8_look_X0_note : GoodIn wsX8_look (wsV RX8 177 RX0 yX0_note wsX0_note) := goodIn_app (goodIn_of _ (by decide +kernel)) ggX8_look_X0_note
set_option maxRecDepth 20000 in
theorem ggX8_look_X8_followCourse : GoodIn wsX8_look wsX8_followCourse := goodIn_r _ [44, 45, 1, 2, 46, 47, 48, 49, 50, 51, 52, 53, 54, 55, 56, 57, 58, 59, 60, 61, 62, 63, 64, 65, 66, 67, 68, 69, 8, 70, 15, 71, 72, 73, 74, 75, 76, 77, 78, 79, 80, 81, 82, 83, 84, 85, 86, 87, 88, 89, 90, 91, 92, 93, 94, 95, 96, 97, 98, 99, 100, 101, 102, 103, 104, 105, 106, 107, 108, 109, 110, 111, 112, 113, 114, 115, 116, 117, 118, 119, 120, 121, 122, 123, 124, 125, 126, 127, 128, 129, 133, 134, 135, 136] (by decide +kernel) (by decide +kernel)
set_option maxRecDepth 20000 in
theorem gX8_look_X8_followCourse : GoodIn wsX8_look (wsV RX8 181 RX8 yX8_followCourse wsX8_followCourse) := goodIn_app (goodIn_of _ (by decide +kernel)) ggX8_look_X8_followCourse
theorem dX8_look_0 : decode cX8_look 0 = .ok (.aload_n 0, 1) := by decide +kernel
theorem dX8_look_1 : decode cX8_look 1 = .ok (.getfield 19, 3) := by decide +kernel
theorem dX8_look_4 : decode cX8_look 4 = .ok (.iload_n 1, 1) := by decide +kernel
theorem dX8_look_5 : decode cX8_look 5 = .ok (.invokevirtual 108, 3) := by decide +kernel
theorem dX8_look_8 : decode cX8_look 8 = .ok (.ifCond .eq 21, 3) := by decide +kernel
theorem dX8_look_11 : decode cX8_look 11 = .ok (.aload_n 0, 1) := by decide +kernel
theorem dX8_look_12 : decode cX8_look 12 = .ok (.getfield 19, 3) := by decide +kernel
theorem dX8_look_15 : decode cX8_look 15 = .ok (.iload_n 2, 1) := by decide +kernel
theorem dX8_look_16 : decode cX8_look 16 = .ok (.invokevirtual 98, 3) := by decide +kernel
theorem dX8_look_19 : decode cX8_look 19 = .ok (.ifCond .eq 10, 3) := by decide +kernel
theorem dX8_look_22 : decode cX8_look 22 = .ok (.iload_n 3, 1) := by decide +kernel
theorem dX8_look_23 : decode cX8_look 23 = .ok (.invokestatic 129, 3) := by decide +kernel
theorem dX8_look_26 : decode cX8_look 26 = .ok (.ifCond .ne 5, 3) := by decide +kernel
theorem dX8_look_29 : decode cX8_look 29 = .ok (.iconst (-1), 1) := by decide +kernel
theorem dX8_look_30 : decode cX8_look 30 = .ok (.ireturn, 1) := by decide +kernel
theorem dX8_look_31 : decode cX8_look 31 = .ok (.aload_n 0, 1) := by decide +kernel
theorem dX8_look_32 : decode cX8_look 32 = .ok (.getfield 19, 3) := by decide +kernel
theorem dX8_look_35 : decode cX8_look 35 = .ok (.getfield 111, 3) := by decide +kernel
theorem dX8_look_38 : decode cX8_look 38 = .ok (.iload_n 1, 1) := by decide +kernel
theorem dX8_look_39 : decode cX8_look 39 = .ok (.iload_n 2, 1) := by decide +kernel
theorem dX8_look_40 : decode cX8_look 40 = .ok (.iload_n 3, 1) := by decide +kernel
theorem dX8_look_41 : decode cX8_look 41 = .ok (.invokevirtual 184, 3) := by decide +kernel
theorem dX8_look_44 : decode cX8_look 44 = .ok (.ifCond .ne 6, 3) := by decide +kernel
theorem dX8_look_47 : decode cX8_look 47 = .ok (.bipush (-3), 2) := by decide +kernel
theorem dX8_look_49 : decode cX8_look 49 = .ok (.ireturn, 1) := by decide +kernel
theorem dX8_look_50 : decode cX8_look 50 = .ok (.aload_n 0, 1) := by decide +kernel
theorem dX8_look_51 : decode cX8_look 51 = .ok (.getfield 57, 3) := by decide +kernel
theorem dX8_look_54 : decode cX8_look 54 = .ok (.iconst (-1), 1) := by decide +kernel
theorem dX8_look_55 : decode cX8_look 55 = .ok (.iconst 0, 1) := by decide +kernel
theorem dX8_look_56 : decode cX8_look 56 = .ok (.invokevirtual 177, 3) := by decide +kernel
theorem dX8_look_59 : decode cX8_look 59 = .ok (.aload_n 0, 1) := by decide +kernel
theorem dX8_look_60 : decode cX8_look 60 = .ok (.invokevirtual 181, 3) := by decide +kernel
theorem dX8_look_63 : decode cX8_look 63 = .ok (.aload_n 0, 1) := by decide +kernel
theorem dX8_look_64 : decode cX8_look 64 = .ok (.getfield 19, 3) := by decide +kernel
theorem dX8_look_67 : decode cX8_look 67 = .ok (.getfield 111, 3) := by decide +kernel
theorem dX8_look_70 : decode cX8_look 70 = .ok (.getfield 187, 3) := by decide +kernel
theorem dX8_look_73 : decode cX8_look 73 = .ok (.ireturn, 1) := by decide +kernel
set_option maxRecDepth 20000 in
theorem ggX8_undo_X0_takeBack : GoodIn wsX8_undo wsX0_takeBack := goodIn_r _ [9, 10, 11, 12, 13, 14, 102, 103, 104, 105, 106, 107, 108, 109] (by decide +kernel) (by decide +kernel)
set_option maxRecDepth 20000 in
theorem gX8_undo_X0_takeBack : GoodIn wsX8_undo (wsV RX8 190 RX0 yX0_takeBack wsX0_takeBack) := goodIn_app (goodIn_of _ (by decide +kernel)) ggX8_undo_X0_takeBack
set_option maxRecDepth 20000 in
theorem ggX8_undo_X8_followCourse : GoodIn wsX8_undo wsX8_followCourse := goodIn_r _ [19, 20, 2, 3, 21, 22, 23, 24, 25, 26, 27, 28, 29, 30, 31, 32, 33, 34, 35, 36, 37, 38, 39, 40, 41, 42, 43, 44, 45, 46, 47, 48, 49, 50, 51, 52, 53, 54, 55, 56, 57, 58, 59, 60, 61, 62, 63, 64, 65, 66, 67, 68, 69, 70, 71, 72, 73, 74, 75, 76, 77, 78, 79, 80, 81, 82, 83, 84, 85, 86, 87, 88, 89, 90, 91, 92, 93, 94, 95, 96, 97, 98, 99, 100, 101, 105, 106, 107, 108, 109, 110, 111, 112, 113] (by decide +kernel) (by decide +kernel)
set_option maxRecDepth 20000 in
theorem gX8_undo_X8_followCourse : GoodIn wsX8_undo (wsV RX8 181 RX8 yX8_followCourse wsX8_followCourse) := goodIn_app (goodIn_of _ (by decide +kernel)) ggX8_undo_X8_followCourse
theorem dX8_undo_0 : decode cX8_undo 0 = .ok (.aload_n 0, 1) := by decide +kernel
theorem dX8_undo_1 : decode cX8_undo 1 = .ok (.getfield 57, 3) := by decide +kernel
theorem dX8_undo_4 : decode cX8_undo 4 = .ok (.aload_n 0, 1) := by decide +kernel
theorem dX8_undo_5 : decode cX8_undo 5 = .ok (.getfield 19, 3) := by decide +kernel
theorem dX8_undo_8 : decode cX8_undo 8 = .ok (.getfield 111, 3) := by decide +kernel
theorem dX8_undo_11 : decode cX8_undo 11 = .ok (.invokevirtual 190, 3) := by decide +kernel
theorem dX8_undo_14 : decode cX8_undo 14 = .ok (.ifCond .ne 6, 3) := by decide +kernel
theorem dX8_undo_17 : decode cX8_undo 17 = .ok (.bipush (-2), 2) := by decide +kernel
theorem dX8_undo_19 : decode cX8_undo 19 = .ok (.ireturn, 1) := by decide +kernel
theorem dX8_undo_20 : decode cX8_undo 20 = .ok (.aload_n 0, 1) := by decide +kernel
theorem dX8_undo_21 : decode cX8_undo 21 = .ok (.invokevirtual 181, 3) := by decide +kernel
theorem dX8_undo_24 : decode cX8_undo 24 = .ok (.aload_n 0, 1) := by decide +kernel
theorem dX8_undo_25 : decode cX8_undo 25 = .ok (.getfield 57, 3) := by decide +kernel
theorem dX8_undo_28 : decode cX8_undo 28 = .ok (.getfield 194, 3) := by decide +kernel
theorem dX8_undo_31 : decode cX8_undo 31 = .ok (.ireturn, 1) := by decide +kernel
set_option maxRecDepth 20000 in
theorem ggX8_seen_X7_hasSkin : GoodIn wsX8_seen wsX7_hasSkin := goodIn_r _ [8, 9, 45, 46, 47, 48, 49, 50, 51, 52, 53] (by decide +kernel) (by decide +kernel)
set_option maxRecDepth 20000 in
theorem gX8_seen_X7_hasSkin : GoodIn wsX8_seen (wsV RX8 108 RX7 yX7_hasSkin wsX7_hasSkin) := goodIn_app (goodIn_of _ (by decide +kernel)) ggX8_seen_X7_hasSkin
set_option maxRecDepth 20000 in
theorem ggX8_seen_X7_hasPlace : GoodIn wsX8_seen wsX7_hasPlace := goodIn_r _ [13, 14, 45, 46, 47, 48, 49, 50, 51, 52, 53] (by decide +kernel) (by decide +kernel)
set_option maxRecDepth 20000 in
theorem gX8_seen_X7_hasPlace : GoodIn wsX8_seen (wsV RX8 98 RX7 yX7_hasPlace wsX7_hasPlace) := goodIn_app (goodIn_of _ (by decide +kernel)) ggX8_seen_X7_hasPlace
set_option maxRecDepth 20000 in
theorem ggX8_seen_X8_isDay : GoodIn wsX8_seen wsX8_isDay := goodIn_r _ [18] (by decide +kernel) (by decide +kernel)
set_option maxRecDepth 20000 in
theorem gX8_seen_X8_isDay : GoodIn wsX8_seen (va_wsS RX8 129 yX8_isDay wsX8_isDay) := goodIn_app (goodIn_of _ (by decide +kernel)) ggX8_seen_X8_isDay
set_option maxRecDepth 20000 in
theorem ggX8_seen_X6_add : GoodIn wsX8_seen wsX6_add := goodIn_r _ [23, 24, 25, 26, 27, 28, 39, 40, 41, 42, 43, 44] (by decide +kernel) (by decide +kernel)
set_option maxRecDepth 20000 in
theorem gX8_seen_X6_add : GoodIn wsX8_seen (wsV RX8 197 RX6 yX6_add wsX6_add) := goodIn_app (goodIn_of _ (by decide +kernel)) ggX8_seen_X6_add
theorem dX8_seen_0 : decode cX8_seen 0 = .ok (.aload_n 0, 1) := by decide +kernel
theorem dX8_seen_1 : decode cX8_seen 1 = .ok (.getfield 19, 3) := by decide +kernel
theorem dX8_seen_4 : decode cX8_seen 4 = .ok (.iload_n 1, 1) := by decide +kernel
theorem dX8_seen_5 : decode cX8_seen 5 = .ok (.invokevirtual 108, 3) := by decide +kernel
theorem dX8_seen_8 : decode cX8_seen 8 = .ok (.ifCond .eq 21, 3) := by decide +kernel
theorem dX8_seen_11 : decode cX8_seen 11 = .ok (.aload_n 0, 1) := by decide +kernel
theorem dX8_seen_12 : decode cX8_seen 12 = .ok (.getfield 19, 3) := by decide +kernel
theorem dX8_seen_15 : decode cX8_seen 15 = .ok (.iload_n 2, 1) := by decide +kernel
theorem dX8_seen_16 : decode cX8_seen 16 = .ok (.invokevirtual 98, 3) := by decide +kernel
theorem dX8_seen_19 : decode cX8_seen 19 = .ok (.ifCond .eq 10, 3) := by decide +kernel
theorem dX8_seen_22 : decode cX8_seen 22 = .ok (.iload_n 3, 1) := by decide +kernel
theorem dX8_seen_23 : decode cX8_seen 23 = .ok (.invokestatic 129, 3) := by decide +kernel
theorem dX8_seen_26 : decode cX8_seen 26 = .ok (.ifCond .ne 5, 3) := by decide +kernel
theorem dX8_seen_29 : decode cX8_seen 29 = .ok (.iconst (-1), 1) := by decide +kernel
theorem dX8_seen_30 : decode cX8_seen 30 = .ok (.ireturn, 1) := by decide +kernel
theorem dX8_seen_31 : decode cX8_seen 31 = .ok (.aload_n 0, 1) := by decide +kernel
theorem dX8_seen_32 : decode cX8_seen 32 = .ok (.getfield 43, 3) := by decide +kernel
theorem dX8_seen_35 : decode cX8_seen 35 = .ok (.iload_n 1, 1) := by decide +kernel
theorem dX8_seen_36 : decode cX8_seen 36 = .ok (.iload_n 2, 1) := by decide +kernel
theorem dX8_seen_37 : decode cX8_seen 37 = .ok (.iload_n 3, 1) := by decide +kernel
theorem dX8_seen_38 : decode cX8_seen 38 = .ok (.iload 4, 2) := by decide +kernel
theorem dX8_seen_40 : decode cX8_seen 40 = .ok (.invokevirtual 197, 3) := by decide +kernel
theorem dX8_seen_43 : decode cX8_seen 43 = .ok (.ifCond .eq 13, 3) := by decide +kernel
theorem dX8_seen_46 : decode cX8_seen 46 = .ok (.aload_n 0, 1) := by decide +kernel
theorem dX8_seen_47 : decode cX8_seen 47 = .ok (.getfield 43, 3) := by decide +kernel
theorem dX8_seen_50 : decode cX8_seen 50 = .ok (.getfield 201, 3) := by decide +kernel
theorem dX8_seen_53 : decode cX8_seen 53 = .ok (.goto 5, 3) := by decide +kernel
theorem dX8_seen_56 : decode cX8_seen 56 = .ok (.bipush (-3), 2) := by decide +kernel
theorem dX8_seen_58 : decode cX8_seen 58 = .ok (.ireturn, 1) := by decide +kernel
theorem dX8_forget_0 : decode cX8_forget 0 = .ok (.aload_n 0, 1) := by decide +kernel
theorem dX8_forget_1 : decode cX8_forget 1 = .ok (.getfield 43, 3) := by decide +kernel
theorem dX8_forget_4 : decode cX8_forget 4 = .ok (.getfield 201, 3) := by decide +kernel
theorem dX8_forget_7 : decode cX8_forget 7 = .ok (.istore_n 1, 1) := by decide +kernel
theorem dX8_forget_8 : decode cX8_forget 8 = .ok (.aload_n 0, 1) := by decide +kernel
theorem dX8_forget_9 : decode cX8_forget 9 = .ok (.getfield 43, 3) := by decide +kernel
theorem dX8_forget_12 : decode cX8_forget 12 = .ok (.iconst 0, 1) := by decide +kernel
theorem dX8_forget_13 : decode cX8_forget 13 = .ok (.putfield 201, 3) := by decide +kernel
theorem dX8_forget_16 : decode cX8_forget 16 = .ok (.iload_n 1, 1) := by decide +kernel
theorem dX8_forget_17 : decode cX8_forget 17 = .ok (.ireturn, 1) := by decide +kernel
set_option maxRecDepth 20000 in
theorem ggX8_starts_X7_hasSkin : GoodIn wsX8_starts wsX7_hasSkin := goodIn_r _ [6, 7, 59, 60, 61, 62, 63, 64, 65, 66, 67] (by decide +kernel) (by decide +kernel)
set_option maxRecDepth 20000 in
theorem gX8_starts_X7_hasSkin : GoodIn wsX8_starts (wsV RX8 108 RX7 yX7_hasSkin wsX7_hasSkin) := goodIn_app (goodIn_of _ (by decide +kernel)) ggX8_starts_X7_hasSkin
set_option maxRecDepth 20000 in
theorem ggX8_starts_X8_possibleStarts : GoodIn wsX8_starts wsX8_possibleStarts := goodIn_r _ [12, 1, 13, 14, 15, 16, 17, 18, 19, 20, 21, 22, 23, 24, 25, 26, 27, 28, 29, 5, 30, 31, 32, 33, 34, 35, 36, 37, 38, 39, 40, 41, 42, 43, 44, 45, 46, 47, 48, 49, 50, 51, 52, 53, 54, 55, 56, 57, 58, 59, 60, 61, 62, 63, 64, 65, 66, 67, 68, 69, 70, 71, 72, 73] (by decide +kernel) (by decide +kernel)
set_option maxRecDepth 20000 in
theorem gX8_starts_X8_possibleStarts : GoodIn wsX8_starts (wsV RX8 202 RX8 yX8_possibleStarts wsX8_possibleStarts) := goodIn_app (goodIn_of _ (by decide +kernel)) ggX8_starts_X8_possibleStarts
theorem dX8_starts_0 : decode cX8_starts 0 = .ok (.aload_n 0, 1) := by decide +kernel
theorem dX8_starts_1 : decode cX8_starts 1 = .ok (.getfield 19, 3) := by decide +kernel
theorem dX8_starts_4 : decode cX8_starts 4 = .ok (.iload_n 1, 1) := by decide +kernel
theorem dX8_starts_5 : decode cX8_starts 5 = .ok (.invokevirtual 108, 3) := by decide +kernel
theorem dX8_starts_8 : decode cX8_starts 8 = .ok (.ifCond .eq 11, 3) := by decide +kernel
theorem dX8_starts_11 : decode cX8_starts 11 = .ok (.aload_n 0, 1) := by decide +kernel
theorem dX8_starts_12 : decode cX8_starts 12 = .ok (.iload_n 1, 1) := by decide +kernel
theorem dX8_starts_13 : decode cX8_starts 13 = .ok (.invokevirtual 202, 3) := by decide +kernel
theorem dX8_starts_16 : decode cX8_starts 16 = .ok (.goto 4, 3) := by decide +kernel
theorem dX8_starts_19 : decode cX8_starts 19 = .ok (.iconst (-1), 1) := by decide +kernel
theorem dX8_starts_20 : decode cX8_starts 20 = .ok (.ireturn, 1) := by decide +kernel
set_option maxRecDepth 20000 in
theorem ggX8_laws_X7_hasSkin : GoodIn wsX8_laws wsX7_hasSkin := goodIn_r _ [9, 10, 54, 55, 56, 57, 58, 59, 60, 61, 62] (by decide +kernel) (by decide +kernel)
set_option maxRecDepth 20000 in
theorem gX8_laws_X7_hasSkin : GoodIn wsX8_laws (wsV RX8 108 RX7 yX7_hasSkin wsX7_hasSkin) := goodIn_app (goodIn_of _ (by decide +kernel)) ggX8_laws_X7_hasSkin
set_option maxRecDepth 20000 in
theorem ggX8_laws_X6_agree : GoodIn wsX8_laws wsX6_agree := goodIn_r _ [15, 16, 17, 18, 19, 20, 21, 22, 23, 24, 8, 25, 26, 27, 28, 29, 30, 31, 32, 33, 34, 35, 36, 37, 38, 39, 40, 41, 42, 43, 68, 69, 70, 71, 72, 73, 54, 55, 56, 57, 58, 59, 60, 61, 62] (by decide +kernel) (by decide +kernel)
set_option maxRecDepth 20000 in
theorem gX8_laws_X6_agree : GoodIn wsX8_laws (wsV RX8 206 RX6 yX6_agree wsX6_agree) := goodIn_app (goodIn_of _ (by decide +kernel)) ggX8_laws_X6_agree
theorem dX8_laws_0 : decode cX8_laws 0 = .ok (.aload_n 0, 1) := by decide +kernel
theorem dX8_laws_1 : decode cX8_laws 1 = .ok (.getfield 19, 3) := by decide +kernel
theorem dX8_laws_4 : decode cX8_laws 4 = .ok (.iload_n 1, 1) := by decide +kernel
theorem dX8_laws_5 : decode cX8_laws 5 = .ok (.invokevirtual 108, 3) := by decide +kernel
theorem dX8_laws_8 : decode cX8_laws 8 = .ok (.ifCond .ne 5, 3) := by decide +kernel
theorem dX8_laws_11 : decode cX8_laws 11 = .ok (.iconst (-1), 1) := by decide +kernel
theorem dX8_laws_12 : decode cX8_laws 12 = .ok (.ireturn, 1) := by decide +kernel
theorem dX8_laws_13 : decode cX8_laws 13 = .ok (.iconst 0, 1) := by decide +kernel
theorem dX8_laws_14 : decode cX8_laws 14 = .ok (.istore_n 2, 1) := by decide +kernel
theorem dX8_laws_15 : decode cX8_laws 15 = .ok (.iconst 0, 1) := by decide +kernel
theorem dX8_laws_16 : decode cX8_laws 16 = .ok (.istore_n 3, 1) := by decide +kernel
theorem dX8_laws_17 : decode cX8_laws 17 = .ok (.iload_n 3, 1) := by decide +kernel
theorem dX8_laws_18 : decode cX8_laws 18 = .ok (.iconst 4, 1) := by decide +kernel
theorem dX8_laws_19 : decode cX8_laws 19 = .ok (.if_icmp .ge 43, 3) := by decide +kernel
theorem dX8_laws_22 : decode cX8_laws 22 = .ok (.aload_n 0, 1) := by decide +kernel
theorem dX8_laws_23 : decode cX8_laws 23 = .ok (.getfield 43, 3) := by decide +kernel
theorem dX8_laws_26 : decode cX8_laws 26 = .ok (.aload_n 0, 1) := by decide +kernel
theorem dX8_laws_27 : decode cX8_laws 27 = .ok (.getfield 19, 3) := by decide +kernel
theorem dX8_laws_30 : decode cX8_laws 30 = .ok (.iload_n 1, 1) := by decide +kernel
theorem dX8_laws_31 : decode cX8_laws 31 = .ok (.aload_n 0, 1) := by decide +kernel
theorem dX8_laws_32 : decode cX8_laws 32 = .ok (.getfield 19, 3) := by decide +kernel
theorem dX8_laws_35 : decode cX8_laws 35 = .ok (.getfield 111, 3) := by decide +kernel
theorem dX8_laws_38 : decode cX8_laws 38 = .ok (.getfield 115, 3) := by decide +kernel
theorem dX8_laws_41 : decode cX8_laws 41 = .ok (.iload_n 1, 1) := by decide +kernel
theorem dX8_laws_42 : decode cX8_laws 42 = .ok (.iaload, 1) := by decide +kernel
theorem dX8_laws_43 : decode cX8_laws 43 = .ok (.iload_n 3, 1) := by decide +kernel
theorem dX8_laws_44 : decode cX8_laws 44 = .ok (.invokevirtual 206, 3) := by decide +kernel
theorem dX8_laws_47 : decode cX8_laws 47 = .ok (.ifCond .eq 9, 3) := by decide +kernel
theorem dX8_laws_50 : decode cX8_laws 50 = .ok (.iload_n 2, 1) := by decide +kernel
theorem dX8_laws_51 : decode cX8_laws 51 = .ok (.iconst 1, 1) := by decide +kernel
theorem dX8_laws_52 : decode cX8_laws 52 = .ok (.iload_n 3, 1) := by decide +kernel
theorem dX8_laws_53 : decode cX8_laws 53 = .ok (.ishl, 1) := by decide +kernel
theorem dX8_laws_54 : decode cX8_laws 54 = .ok (.ior, 1) := by decide +kernel
theorem dX8_laws_55 : decode cX8_laws 55 = .ok (.istore_n 2, 1) := by decide +kernel
theorem dX8_laws_56 : decode cX8_laws 56 = .ok (.iinc 3 1, 3) := by decide +kernel
theorem dX8_laws_59 : decode cX8_laws 59 = .ok (.goto (-42), 3) := by decide +kernel
theorem dX8_laws_62 : decode cX8_laws 62 = .ok (.iload_n 2, 1) := by decide +kernel
theorem dX8_laws_63 : decode cX8_laws 63 = .ok (.ireturn, 1) := by decide +kernel
set_option maxRecDepth 20000 in
theorem ggX8_sure_X7_hasSkin : GoodIn wsX8_sure wsX7_hasSkin := goodIn_r _ [10, 11, 89, 90, 91, 92, 93, 94, 95, 96, 97] (by decide +kernel) (by decide +kernel)
set_option maxRecDepth 20000 in
theorem gX8_sure_X7_hasSkin : GoodIn wsX8_sure (wsV RX8 108 RX7 yX7_hasSkin wsX7_hasSkin) := goodIn_app (goodIn_of _ (by decide +kernel)) ggX8_sure_X7_hasSkin
set_option maxRecDepth 20000 in
theorem ggX8_sure_X8_isZeroOrOne : GoodIn wsX8_sure wsX8_isZeroOrOne := goodIn_r _ [15] (by decide +kernel) (by decide +kernel)
set_option maxRecDepth 20000 in
theorem gX8_sure_X8_isZeroOrOne : GoodIn wsX8_sure (va_wsS RX8 161 yX8_isZeroOrOne wsX8_isZeroOrOne) := goodIn_app (goodIn_of _ (by decide +kernel)) ggX8_sure_X8_isZeroOrOne
set_option maxRecDepth 20000 in
theorem ggX8_sure_X8_possibleStarts : GoodIn wsX8_sure wsX8_possibleStarts := goodIn_r _ [19, 1, 20, 21, 3, 22, 23, 24, 25, 26, 27, 28, 29, 30, 31, 32, 33, 34, 35, 9, 36, 37, 38, 39, 40, 41, 42, 43, 44, 45, 46, 47, 48, 49, 50, 51, 52, 53, 54, 79, 80, 81, 82, 83, 84, 85, 86, 87, 88, 89, 90, 91, 92, 93, 94, 95, 96, 97, 103, 104, 105, 106, 107, 108] (by decide +kernel) (by decide +kernel)
set_option maxRecDepth 20000 in
theorem gX8_sure_X8_possibleStarts : GoodIn wsX8_sure (wsV RX8 202 RX8 yX8_possibleStarts wsX8_possibleStarts) := goodIn_app (goodIn_of _ (by decide +kernel)) ggX8_sure_X8_possibleStarts
set_option maxRecDepth 20000 in
theorem ggX8_sure_X4_run : GoodIn wsX8_sure wsX4_run := goodIn_r _ [59, 60, 61, 62, 63, 64, 65, 34, 35, 9, 36, 37, 38, 39, 40, 41, 42, 43, 44, 45, 46, 47, 48, 49, 50, 51, 52, 53, 54, 66, 67, 68, 69, 70, 71, 72, 58, 73, 74, 75, 76, 77, 78, 98, 99, 100, 101, 102, 89, 90, 91, 92, 93, 94, 95, 96, 97] (by decide +kernel) (by decide +kernel)
set_option maxRecDepth 20000 in
theorem gX8_sure_X4_run : GoodIn wsX8_sure (wsV RX8 210 RX4 yX4_run wsX4_run) := goodIn_app (goodIn_of _ (by decide +kernel)) ggX8_sure_X4_run
theorem dX8_sure_0 : decode cX8_sure 0 = .ok (.aload_n 0, 1) := by decide +kernel
theorem dX8_sure_1 : decode cX8_sure 1 = .ok (.getfield 19, 3) := by decide +kernel
theorem dX8_sure_4 : decode cX8_sure 4 = .ok (.iload_n 1, 1) := by decide +kernel
theorem dX8_sure_5 : decode cX8_sure 5 = .ok (.invokevirtual 108, 3) := by decide +kernel
theorem dX8_sure_8 : decode cX8_sure 8 = .ok (.ifCond .eq 10, 3) := by decide +kernel
theorem dX8_sure_11 : decode cX8_sure 11 = .ok (.iload_n 2, 1) := by decide +kernel
theorem dX8_sure_12 : decode cX8_sure 12 = .ok (.invokestatic 161, 3) := by decide +kernel
theorem dX8_sure_15 : decode cX8_sure 15 = .ok (.ifCond .ne 5, 3) := by decide +kernel
theorem dX8_sure_18 : decode cX8_sure 18 = .ok (.iconst (-1), 1) := by decide +kernel
theorem dX8_sure_19 : decode cX8_sure 19 = .ok (.ireturn, 1) := by decide +kernel
theorem dX8_sure_20 : decode cX8_sure 20 = .ok (.aload_n 0, 1) := by decide +kernel
theorem dX8_sure_21 : decode cX8_sure 21 = .ok (.getfield 50, 3) := by decide +kernel
theorem dX8_sure_24 : decode cX8_sure 24 = .ok (.aload_n 0, 1) := by decide +kernel
theorem dX8_sure_25 : decode cX8_sure 25 = .ok (.getfield 19, 3) := by decide +kernel
theorem dX8_sure_28 : decode cX8_sure 28 = .ok (.aload_n 0, 1) := by decide +kernel
theorem dX8_sure_29 : decode cX8_sure 29 = .ok (.getfield 19, 3) := by decide +kernel
theorem dX8_sure_32 : decode cX8_sure 32 = .ok (.getfield 123, 3) := by decide +kernel
theorem dX8_sure_35 : decode cX8_sure 35 = .ok (.iload_n 1, 1) := by decide +kernel
theorem dX8_sure_36 : decode cX8_sure 36 = .ok (.iaload, 1) := by decide +kernel
theorem dX8_sure_37 : decode cX8_sure 37 = .ok (.aload_n 0, 1) := by decide +kernel
theorem dX8_sure_38 : decode cX8_sure 38 = .ok (.iload_n 1, 1) := by decide +kernel
theorem dX8_sure_39 : decode cX8_sure 39 = .ok (.invokevirtual 202, 3) := by decide +kernel
theorem dX8_sure_42 : decode cX8_sure 42 = .ok (.invokevirtual 210, 3) := by decide +kernel
theorem dX8_sure_45 : decode cX8_sure 45 = .ok (.iload_n 2, 1) := by decide +kernel
theorem dX8_sure_46 : decode cX8_sure 46 = .ok (.ifCond .ne 13, 3) := by decide +kernel
theorem dX8_sure_49 : decode cX8_sure 49 = .ok (.aload_n 0, 1) := by decide +kernel
theorem dX8_sure_50 : decode cX8_sure 50 = .ok (.getfield 50, 3) := by decide +kernel
theorem dX8_sure_53 : decode cX8_sure 53 = .ok (.getfield 213, 3) := by decide +kernel
theorem dX8_sure_56 : decode cX8_sure 56 = .ok (.goto 10, 3) := by decide +kernel
theorem dX8_sure_59 : decode cX8_sure 59 = .ok (.aload_n 0, 1) := by decide +kernel
theorem dX8_sure_60 : decode cX8_sure 60 = .ok (.getfield 50, 3) := by decide +kernel
theorem dX8_sure_63 : decode cX8_sure 63 = .ok (.getfield 216, 3) := by decide +kernel
theorem dX8_sure_66 : decode cX8_sure 66 = .ok (.ireturn, 1) := by decide +kernel
set_option maxRecDepth 20000 in
theorem ggX8_lots_X7_hasPlace : GoodIn wsX8_lots wsX7_hasPlace := goodIn_r _ [7, 8, 36, 37, 38, 39, 40, 41, 42, 43, 44] (by decide +kernel) (by decide +kernel)
set_option maxRecDepth 20000 in
theorem gX8_lots_X7_hasPlace : GoodIn wsX8_lots (wsV RX8 98 RX7 yX7_hasPlace wsX7_hasPlace) := goodIn_app (goodIn_of _ (by decide +kernel)) ggX8_lots_X7_hasPlace
set_option maxRecDepth 20000 in
theorem ggX8_lots_X8_isZeroOrOne : GoodIn wsX8_lots wsX8_isZeroOrOne := goodIn_r _ [12] (by decide +kernel) (by decide +kernel)
set_option maxRecDepth 20000 in
theorem gX8_lots_X8_isZeroOrOne : GoodIn wsX8_lots (va_wsS RX8 161 yX8_isZeroOrOne wsX8_isZeroOrOne) := goodIn_app (goodIn_of _ (by decide +kernel)) ggX8_lots_X8_isZeroOrOne
set_option maxRecDepth 20000 in
theorem ggX8_lots_X7_isIn : GoodIn wsX8_lots wsX7_isIn := goodIn_r _ [16, 17, 36, 37, 38, 39, 40, 41, 42, 43, 44] (by decide +kernel) (by decide +kernel)
set_option maxRecDepth 20000 in
theorem gX8_lots_X7_isIn : GoodIn wsX8_lots (wsV RX8 219 RX7 yX7_isIn wsX7_isIn) := goodIn_app (goodIn_of _ (by decide +kernel)) ggX8_lots_X7_isIn
set_option maxRecDepth 20000 in
theorem ggX8_lots_X7_partsOf : GoodIn wsX8_lots wsX7_partsOf := goodIn_r _ [21, 22, 36, 37, 38, 39, 40, 41, 42, 43, 44] (by decide +kernel) (by decide +kernel)
set_option maxRecDepth 20000 in
theorem gX8_lots_X7_partsOf : GoodIn wsX8_lots (wsV RX8 222 RX7 yX7_partsOf wsX7_partsOf) := goodIn_app (goodIn_of _ (by decide +kernel)) ggX8_lots_X7_partsOf
set_option maxRecDepth 20000 in
theorem ggX8_lots_X8_commonDivisor : GoodIn wsX8_lots wsX8_commonDivisor := goodIn_r _ [25] (by decide +kernel) (by decide +kernel)
set_option maxRecDepth 20000 in
theorem gX8_lots_X8_commonDivisor : GoodIn wsX8_lots (va_wsS RX8 225 yX8_commonDivisor wsX8_commonDivisor) := goodIn_app (goodIn_of _ (by decide +kernel)) ggX8_lots_X8_commonDivisor
theorem dX8_lots_0 : decode cX8_lots 0 = .ok (.iload_n 1, 1) := by decide +kernel
theorem dX8_lots_1 : decode cX8_lots 1 = .ok (.iconst (-1), 1) := by decide +kernel
theorem dX8_lots_2 : decode cX8_lots 2 = .ok (.if_icmp .eq 14, 3) := by decide +kernel
theorem dX8_lots_5 : decode cX8_lots 5 = .ok (.aload_n 0, 1) := by decide +kernel
theorem dX8_lots_6 : decode cX8_lots 6 = .ok (.getfield 19, 3) := by decide +kernel
theorem dX8_lots_9 : decode cX8_lots 9 = .ok (.iload_n 1, 1) := by decide +kernel
theorem dX8_lots_10 : decode cX8_lots 10 = .ok (.invokevirtual 98, 3) := by decide +kernel
theorem dX8_lots_13 : decode cX8_lots 13 = .ok (.ifCond .eq 20, 3) := by decide +kernel
theorem dX8_lots_16 : decode cX8_lots 16 = .ok (.iload_n 2, 1) := by decide +kernel
theorem dX8_lots_17 : decode cX8_lots 17 = .ok (.iconst (-1), 1) := by decide +kernel
theorem dX8_lots_18 : decode cX8_lots 18 = .ok (.if_icmp .lt 15, 3) := by decide +kernel
theorem dX8_lots_21 : decode cX8_lots 21 = .ok (.iload_n 2, 1) := by decide +kernel
theorem dX8_lots_22 : decode cX8_lots 22 = .ok (.iconst 5, 1) := by decide +kernel
theorem dX8_lots_23 : decode cX8_lots 23 = .ok (.if_icmp .gt 10, 3) := by decide +kernel
theorem dX8_lots_26 : decode cX8_lots 26 = .ok (.iload_n 3, 1) := by decide +kernel
theorem dX8_lots_27 : decode cX8_lots 27 = .ok (.invokestatic 161, 3) := by decide +kernel
theorem dX8_lots_30 : decode cX8_lots 30 = .ok (.ifCond .ne 5, 3) := by decide +kernel
theorem dX8_lots_33 : decode cX8_lots 33 = .ok (.iconst (-1), 1) := by decide +kernel
theorem dX8_lots_34 : decode cX8_lots 34 = .ok (.ireturn, 1) := by decide +kernel
theorem dX8_lots_35 : decode cX8_lots 35 = .ok (.iload_n 1, 1) := by decide +kernel
theorem dX8_lots_36 : decode cX8_lots 36 = .ok (.iconst (-1), 1) := by decide +kernel
theorem dX8_lots_37 : decode cX8_lots 37 = .ok (.if_icmp .eq 18, 3) := by decide +kernel
theorem dX8_lots_40 : decode cX8_lots 40 = .ok (.aload_n 0, 1) := by decide +kernel
theorem dX8_lots_41 : decode cX8_lots 41 = .ok (.getfield 19, 3) := by decide +kernel
theorem dX8_lots_44 : decode cX8_lots 44 = .ok (.iload_n 1, 1) := by decide +kernel
theorem dX8_lots_45 : decode cX8_lots 45 = .ok (.iload_n 2, 1) := by decide +kernel
theorem dX8_lots_46 : decode cX8_lots 46 = .ok (.invokevirtual 219, 3) := by decide +kernel
theorem dX8_lots_49 : decode cX8_lots 49 = .ok (.ifCond .ne 6, 3) := by decide +kernel
theorem dX8_lots_52 : decode cX8_lots 52 = .ok (.bipush (-2), 2) := by decide +kernel
theorem dX8_lots_54 : decode cX8_lots 54 = .ok (.ireturn, 1) := by decide +kernel
theorem dX8_lots_55 : decode cX8_lots 55 = .ok (.iconst 0, 1) := by decide +kernel
theorem dX8_lots_56 : decode cX8_lots 56 = .ok (.istore 4, 2) := by decide +kernel
theorem dX8_lots_58 : decode cX8_lots 58 = .ok (.iconst 0, 1) := by decide +kernel
theorem dX8_lots_59 : decode cX8_lots 59 = .ok (.istore 5, 2) := by decide +kernel
theorem dX8_lots_61 : decode cX8_lots 61 = .ok (.iload 5, 2) := by decide +kernel
theorem dX8_lots_63 : decode cX8_lots 63 = .ok (.aload_n 0, 1) := by decide +kernel
theorem dX8_lots_64 : decode cX8_lots 64 = .ok (.getfield 19, 3) := by decide +kernel
theorem dX8_lots_67 : decode cX8_lots 67 = .ok (.getfield 170, 3) := by decide +kernel
theorem dX8_lots_70 : decode cX8_lots 70 = .ok (.if_icmp .ge 36, 3) := by decide +kernel
theorem dX8_lots_73 : decode cX8_lots 73 = .ok (.aload_n 0, 1) := by decide +kernel
theorem dX8_lots_74 : decode cX8_lots 74 = .ok (.getfield 19, 3) := by decide +kernel
theorem dX8_lots_77 : decode cX8_lots 77 = .ok (.iload 5, 2) := by decide +kernel
theorem dX8_lots_79 : decode cX8_lots 79 = .ok (.iload_n 2, 1) := by decide +kernel
theorem dX8_lots_80 : decode cX8_lots 80 = .ok (.invokevirtual 219, 3) := by decide +kernel
theorem dX8_lots_83 : decode cX8_lots 83 = .ok (.ifCond .eq 17, 3) := by decide +kernel
theorem dX8_lots_86 : decode cX8_lots 86 = .ok (.iload 4, 2) := by decide +kernel
theorem dX8_lots_88 : decode cX8_lots 88 = .ok (.aload_n 0, 1) := by decide +kernel
theorem dX8_lots_89 : decode cX8_lots 89 = .ok (.getfield 19, 3) := by decide +kernel
theorem dX8_lots_92 : decode cX8_lots 92 = .ok (.iload 5, 2) := by decide +kernel
theorem dX8_lots_94 : decode cX8_lots 94 = .ok (.invokevirtual 222, 3) := by decide +kernel
theorem dX8_lots_97 : decode cX8_lots 97 = .ok (.iadd, 1) := by decide +kernel
theorem dX8_lots_98 : decode cX8_lots 98 = .ok (.istore 4, 2) := by decide +kernel
theorem dX8_lots_100 : decode cX8_lots 100 = .ok (.iinc 5 1, 3) := by decide +kernel
theorem dX8_lots_103 : decode cX8_lots 103 = .ok (.goto (-42), 3) := by decide +kernel
theorem dX8_lots_106 : decode cX8_lots 106 = .ok (.iload 4, 2) := by decide +kernel
theorem dX8_lots_108 : decode cX8_lots 108 = .ok (.iconst 1, 1) := by decide +kernel
theorem dX8_lots_109 : decode cX8_lots 109 = .ok (.if_icmp .ge 6, 3) := by decide +kernel
theorem dX8_lots_112 : decode cX8_lots 112 = .ok (.bipush (-2), 2) := by decide +kernel
theorem dX8_lots_114 : decode cX8_lots 114 = .ok (.ireturn, 1) := by decide +kernel
theorem dX8_lots_115 : decode cX8_lots 115 = .ok (.iload_n 1, 1) := by decide +kernel
theorem dX8_lots_116 : decode cX8_lots 116 = .ok (.iconst (-1), 1) := by decide +kernel
theorem dX8_lots_117 : decode cX8_lots 117 = .ok (.if_icmp .ne 9, 3) := by decide +kernel
theorem dX8_lots_120 : decode cX8_lots 120 = .ok (.sipush 252, 3) := by decide +kernel
theorem dX8_lots_123 : decode cX8_lots 123 = .ok (.goto 11, 3) := by decide +kernel
theorem dX8_lots_126 : decode cX8_lots 126 = .ok (.aload_n 0, 1) := by decide +kernel
theorem dX8_lots_127 : decode cX8_lots 127 = .ok (.getfield 19, 3) := by decide +kernel
theorem dX8_lots_130 : decode cX8_lots 130 = .ok (.iload_n 1, 1) := by decide +kernel
theorem dX8_lots_131 : decode cX8_lots 131 = .ok (.invokevirtual 222, 3) := by decide +kernel
theorem dX8_lots_134 : decode cX8_lots 134 = .ok (.istore 5, 2) := by decide +kernel
theorem dX8_lots_136 : decode cX8_lots 136 = .ok (.iload 5, 2) := by decide +kernel
theorem dX8_lots_138 : decode cX8_lots 138 = .ok (.iload 4, 2) := by decide +kernel
theorem dX8_lots_140 : decode cX8_lots 140 = .ok (.invokestatic 225, 3) := by decide +kernel
theorem dX8_lots_143 : decode cX8_lots 143 = .ok (.istore 6, 2) := by decide +kernel
theorem dX8_lots_145 : decode cX8_lots 145 = .ok (.iload 6, 2) := by decide +kernel
theorem dX8_lots_147 : decode cX8_lots 147 = .ok (.iconst 1, 1) := by decide +kernel
theorem dX8_lots_148 : decode cX8_lots 148 = .ok (.if_icmp .ge 8, 3) := by decide +kernel
theorem dX8_lots_151 : decode cX8_lots 151 = .ok (.bipush (-2), 2) := by decide +kernel
theorem dX8_lots_153 : decode cX8_lots 153 = .ok (.goto 17, 3) := by decide +kernel
theorem dX8_lots_156 : decode cX8_lots 156 = .ok (.iload_n 3, 1) := by decide +kernel
theorem dX8_lots_157 : decode cX8_lots 157 = .ok (.ifCond .ne 8, 3) := by decide +kernel
theorem dX8_lots_160 : decode cX8_lots 160 = .ok (.iload 5, 2) := by decide +kernel
theorem dX8_lots_162 : decode cX8_lots 162 = .ok (.goto 5, 3) := by decide +kernel
theorem dX8_lots_165 : decode cX8_lots 165 = .ok (.iload 4, 2) := by decide +kernel
theorem dX8_lots_167 : decode cX8_lots 167 = .ok (.iload 6, 2) := by decide +kernel
theorem dX8_lots_169 : decode cX8_lots 169 = .ok (.idiv, 1) := by decide +kernel
theorem dX8_lots_170 : decode cX8_lots 170 = .ok (.ireturn, 1) := by decide +kernel
set_option maxRecDepth 20000 in
theorem ggX8_year_X8_isZeroOrOne : GoodIn wsX8_year wsX8_isZeroOrOne := goodIn_r _ [8] (by decide +kernel) (by decide +kernel)
set_option maxRecDepth 20000 in
theorem gX8_year_X8_isZeroOrOne : GoodIn wsX8_year (va_wsS RX8 161 yX8_isZeroOrOne wsX8_isZeroOrOne) := goodIn_app (goodIn_of _ (by decide +kernel)) ggX8_year_X8_isZeroOrOne
set_option maxRecDepth 20000 in
theorem ggX8_year_X8_drawnPlace : GoodIn wsX8_year wsX8_drawnPlace := goodIn_r _ [12, 13, 14, 1, 15, 16, 102, 103, 104, 105, 106, 107, 108, 109, 110, 111, 112, 113, 114, 115, 116, 117, 118, 119, 120] (by decide +kernel) (by decide +kernel)
set_option maxRecDepth 20000 in
theorem gX8_year_X8_drawnPlace : GoodIn wsX8_year (wsV RX8 228 RX8 yX8_drawnPlace wsX8_drawnPlace) := goodIn_app (goodIn_of _ (by decide +kernel)) ggX8_year_X8_drawnPlace
set_option maxRecDepth 20000 in
theorem ggX8_year_X1_run : GoodIn wsX8_year wsX1_run := goodIn_r _ [21, 22, 23, 24, 25, 26, 27, 28, 29, 30, 31, 32, 33, 34, 35, 36, 37, 38, 39, 40, 41, 42, 43, 44, 45, 46, 47, 48, 49, 50, 51, 52, 53, 54, 55, 56, 57, 58, 59, 60, 61, 62, 20, 63, 64, 65, 66, 67, 68, 69, 70, 71, 72, 73, 74, 75, 76, 77, 121, 122, 123, 124, 112, 113, 114, 115, 116, 117, 118, 119, 120, 125, 126, 127, 128, 129] (by decide +kernel) (by decide +kernel)
set_option maxRecDepth 20000 in
theorem gX8_year_X1_run : GoodIn wsX8_year (wsV RX8 173 RX1 yX1_run wsX1_run) := goodIn_app (goodIn_of _ (by decide +kernel)) ggX8_year_X1_run
set_option maxRecDepth 20000 in
theorem ggX8_year_X1_leaversBy : GoodIn wsX8_year wsX1_leaversBy := goodIn_r _ [81, 25, 82, 83, 84, 20, 85, 24, 86, 87, 88, 89, 90, 91, 92, 40, 93, 94, 112, 113, 114, 115, 116, 117, 118, 119, 120, 121, 122, 123, 124] (by decide +kernel) (by decide +kernel)
set_option maxRecDepth 20000 in
theorem gX8_year_X1_leaversBy : GoodIn wsX8_year (wsV RX8 158 RX1 yX1_leaversBy wsX1_leaversBy) := goodIn_app (goodIn_of _ (by decide +kernel)) ggX8_year_X1_leaversBy
set_option maxRecDepth 20000 in
theorem ggX8_year_X1_lastLeaveBy : GoodIn wsX8_year wsX1_lastLeaveBy := goodIn_r _ [98, 25, 99, 100, 71, 101, 82, 83, 84, 20, 85, 24, 86, 87, 88, 89, 90, 91, 92, 40, 93, 94, 112, 113, 114, 115, 116, 117, 118, 119, 120, 121, 122, 123, 124] (by decide +kernel) (by decide +kernel)
set_option maxRecDepth 20000 in
theorem gX8_year_X1_lastLeaveBy : GoodIn wsX8_year (wsV RX8 231 RX1 yX1_lastLeaveBy wsX1_lastLeaveBy) := goodIn_app (goodIn_of _ (by decide +kernel)) ggX8_year_X1_lastLeaveBy
theorem dX8_year_0 : decode cX8_year 0 = .ok (.iload_n 1, 1) := by decide +kernel
theorem dX8_year_1 : decode cX8_year 1 = .ok (.ifCond .lt 17, 3) := by decide +kernel
theorem dX8_year_4 : decode cX8_year 4 = .ok (.iload_n 1, 1) := by decide +kernel
theorem dX8_year_5 : decode cX8_year 5 = .ok (.sipush 9999, 3) := by decide +kernel
theorem dX8_year_8 : decode cX8_year 8 = .ok (.if_icmp .gt 10, 3) := by decide +kernel
theorem dX8_year_11 : decode cX8_year 11 = .ok (.iload_n 2, 1) := by decide +kernel
theorem dX8_year_12 : decode cX8_year 12 = .ok (.invokestatic 161, 3) := by decide +kernel
theorem dX8_year_15 : decode cX8_year 15 = .ok (.ifCond .ne 5, 3) := by decide +kernel
theorem dX8_year_18 : decode cX8_year 18 = .ok (.iconst (-1), 1) := by decide +kernel
theorem dX8_year_19 : decode cX8_year 19 = .ok (.ireturn, 1) := by decide +kernel
theorem dX8_year_20 : decode cX8_year 20 = .ok (.iconst 0, 1) := by decide +kernel
theorem dX8_year_21 : decode cX8_year 21 = .ok (.istore_n 3, 1) := by decide +kernel
theorem dX8_year_22 : decode cX8_year 22 = .ok (.iload_n 3, 1) := by decide +kernel
theorem dX8_year_23 : decode cX8_year 23 = .ok (.aload_n 0, 1) := by decide +kernel
theorem dX8_year_24 : decode cX8_year 24 = .ok (.getfield 19, 3) := by decide +kernel
theorem dX8_year_27 : decode cX8_year 27 = .ok (.getfield 95, 3) := by decide +kernel
theorem dX8_year_30 : decode cX8_year 30 = .ok (.if_icmp .ge 21, 3) := by decide +kernel
theorem dX8_year_33 : decode cX8_year 33 = .ok (.aload_n 0, 1) := by decide +kernel
theorem dX8_year_34 : decode cX8_year 34 = .ok (.getfield 36, 3) := by decide +kernel
theorem dX8_year_37 : decode cX8_year 37 = .ok (.iload_n 3, 1) := by decide +kernel
theorem dX8_year_38 : decode cX8_year 38 = .ok (.aload_n 0, 1) := by decide +kernel
theorem dX8_year_39 : decode cX8_year 39 = .ok (.iload_n 1, 1) := by decide +kernel
theorem dX8_year_40 : decode cX8_year 40 = .ok (.iload_n 3, 1) := by decide +kernel
theorem dX8_year_41 : decode cX8_year 41 = .ok (.invokevirtual 228, 3) := by decide +kernel
theorem dX8_year_44 : decode cX8_year 44 = .ok (.iastore, 1) := by decide +kernel
theorem dX8_year_45 : decode cX8_year 45 = .ok (.iinc 3 1, 3) := by decide +kernel
theorem dX8_year_48 : decode cX8_year 48 = .ok (.goto (-26), 3) := by decide +kernel
theorem dX8_year_51 : decode cX8_year 51 = .ok (.aload_n 0, 1) := by decide +kernel
theorem dX8_year_52 : decode cX8_year 52 = .ok (.getfield 33, 3) := by decide +kernel
theorem dX8_year_55 : decode cX8_year 55 = .ok (.aload_n 0, 1) := by decide +kernel
theorem dX8_year_56 : decode cX8_year 56 = .ok (.getfield 19, 3) := by decide +kernel
theorem dX8_year_59 : decode cX8_year 59 = .ok (.aload_n 0, 1) := by decide +kernel
theorem dX8_year_60 : decode cX8_year 60 = .ok (.getfield 36, 3) := by decide +kernel
theorem dX8_year_63 : decode cX8_year 63 = .ok (.invokevirtual 173, 3) := by decide +kernel
theorem dX8_year_66 : decode cX8_year 66 = .ok (.iload_n 2, 1) := by decide +kernel
theorem dX8_year_67 : decode cX8_year 67 = .ok (.ifCond .ne 19, 3) := by decide +kernel
theorem dX8_year_70 : decode cX8_year 70 = .ok (.aload_n 0, 1) := by decide +kernel
theorem dX8_year_71 : decode cX8_year 71 = .ok (.getfield 33, 3) := by decide +kernel
theorem dX8_year_74 : decode cX8_year 74 = .ok (.bipush 60, 2) := by decide +kernel
theorem dX8_year_76 : decode cX8_year 76 = .ok (.aload_n 0, 1) := by decide +kernel
theorem dX8_year_77 : decode cX8_year 77 = .ok (.getfield 19, 3) := by decide +kernel
theorem dX8_year_80 : decode cX8_year 80 = .ok (.invokevirtual 158, 3) := by decide +kernel
theorem dX8_year_83 : decode cX8_year 83 = .ok (.goto 16, 3) := by decide +kernel
theorem dX8_year_86 : decode cX8_year 86 = .ok (.aload_n 0, 1) := by decide +kernel
theorem dX8_year_87 : decode cX8_year 87 = .ok (.getfield 33, 3) := by decide +kernel
theorem dX8_year_90 : decode cX8_year 90 = .ok (.bipush 60, 2) := by decide +kernel
theorem dX8_year_92 : decode cX8_year 92 = .ok (.aload_n 0, 1) := by decide +kernel
theorem dX8_year_93 : decode cX8_year 93 = .ok (.getfield 19, 3) := by decide +kernel
theorem dX8_year_96 : decode cX8_year 96 = .ok (.invokevirtual 231, 3) := by decide +kernel
theorem dX8_year_99 : decode cX8_year 99 = .ok (.ireturn, 1) := by decide +kernel
set_option maxRecDepth 20000 in
theorem ggX8_keep_X5_put : GoodIn wsX8_keep wsX5_put := goodIn_r _ [9, 10, 11, 12, 13, 14, 15, 16, 17, 18, 19, 20, 21, 22, 23, 24, 25, 45, 46, 47, 48, 49, 50, 51] (by decide +kernel) (by decide +kernel)
set_option maxRecDepth 20000 in
theorem gX8_keep_X5_put : GoodIn wsX8_keep (wsV RX8 234 RX5 yX5_put wsX5_put) := goodIn_app (goodIn_of _ (by decide +kernel)) ggX8_keep_X5_put
theorem dX8_keep_0 : decode cX8_keep 0 = .ok (.aload_n 0, 1) := by decide +kernel
theorem dX8_keep_1 : decode cX8_keep 1 = .ok (.getfield 64, 3) := by decide +kernel
theorem dX8_keep_4 : decode cX8_keep 4 = .ok (.aload_n 0, 1) := by decide +kernel
theorem dX8_keep_5 : decode cX8_keep 5 = .ok (.getfield 19, 3) := by decide +kernel
theorem dX8_keep_8 : decode cX8_keep 8 = .ok (.getfield 111, 3) := by decide +kernel
theorem dX8_keep_11 : decode cX8_keep 11 = .ok (.invokevirtual 234, 3) := by decide +kernel
theorem dX8_keep_14 : decode cX8_keep 14 = .ok (.ifCond .eq 13, 3) := by decide +kernel
theorem dX8_keep_17 : decode cX8_keep 17 = .ok (.aload_n 0, 1) := by decide +kernel
theorem dX8_keep_18 : decode cX8_keep 18 = .ok (.getfield 64, 3) := by decide +kernel
theorem dX8_keep_21 : decode cX8_keep 21 = .ok (.getfield 237, 3) := by decide +kernel
theorem dX8_keep_24 : decode cX8_keep 24 = .ok (.goto 5, 3) := by decide +kernel
theorem dX8_keep_27 : decode cX8_keep 27 = .ok (.bipush (-3), 2) := by decide +kernel
theorem dX8_keep_29 : decode cX8_keep 29 = .ok (.ireturn, 1) := by decide +kernel
set_option maxRecDepth 20000 in
theorem ggX8_back_X5_takeLast : GoodIn wsX8_back wsX5_takeLast := goodIn_r _ [11, 12, 13, 14, 15, 16, 17, 18, 19, 20, 21, 22, 23, 24, 25, 26, 27, 118, 119, 120, 121, 122, 123, 124] (by decide +kernel) (by decide +kernel)
set_option maxRecDepth 20000 in
theorem gX8_back_X5_takeLast : GoodIn wsX8_back (wsV RX8 238 RX5 yX5_takeLast wsX5_takeLast) := goodIn_app (goodIn_of _ (by decide +kernel)) ggX8_back_X5_takeLast
set_option maxRecDepth 20000 in
theorem ggX8_back_X8_followCourse : GoodIn wsX8_back wsX8_followCourse := goodIn_r _ [32, 33, 2, 3, 34, 35, 36, 37, 38, 39, 40, 41, 42, 43, 44, 45, 46, 47, 48, 49, 50, 51, 52, 53, 54, 55, 56, 57, 58, 59, 60, 61, 62, 63, 64, 65, 66, 67, 68, 69, 70, 71, 72, 73, 74, 75, 76, 77, 78, 79, 80, 81, 82, 83, 84, 85, 86, 87, 88, 89, 90, 91, 92, 93, 94, 95, 96, 97, 98, 99, 100, 101, 102, 103, 104, 105, 106, 107, 108, 109, 110, 111, 112, 113, 114, 120, 121, 122, 123, 124, 125, 126, 127, 128] (by decide +kernel) (by decide +kernel)
set_option maxRecDepth 20000 in
theorem gX8_back_X8_followCourse : GoodIn wsX8_back (wsV RX8 181 RX8 yX8_followCourse wsX8_followCourse) := goodIn_app (goodIn_of _ (by decide +kernel)) ggX8_back_X8_followCourse
theorem dX8_back_0 : decode cX8_back 0 = .ok (.aload_n 0, 1) := by decide +kernel
theorem dX8_back_1 : decode cX8_back 1 = .ok (.getfield 64, 3) := by decide +kernel
theorem dX8_back_4 : decode cX8_back 4 = .ok (.aload_n 0, 1) := by decide +kernel
theorem dX8_back_5 : decode cX8_back 5 = .ok (.getfield 19, 3) := by decide +kernel
theorem dX8_back_8 : decode cX8_back 8 = .ok (.getfield 111, 3) := by decide +kernel
theorem dX8_back_11 : decode cX8_back 11 = .ok (.invokevirtual 238, 3) := by decide +kernel
theorem dX8_back_14 : decode cX8_back 14 = .ok (.ifCond .ne 6, 3) := by decide +kernel
theorem dX8_back_17 : decode cX8_back 17 = .ok (.bipush (-2), 2) := by decide +kernel
theorem dX8_back_19 : decode cX8_back 19 = .ok (.ireturn, 1) := by decide +kernel
theorem dX8_back_20 : decode cX8_back 20 = .ok (.aload_n 0, 1) := by decide +kernel
theorem dX8_back_21 : decode cX8_back 21 = .ok (.getfield 57, 3) := by decide +kernel
theorem dX8_back_24 : decode cX8_back 24 = .ok (.iconst 0, 1) := by decide +kernel
theorem dX8_back_25 : decode cX8_back 25 = .ok (.putfield 194, 3) := by decide +kernel
theorem dX8_back_28 : decode cX8_back 28 = .ok (.aload_n 0, 1) := by decide +kernel
theorem dX8_back_29 : decode cX8_back 29 = .ok (.invokevirtual 181, 3) := by decide +kernel
theorem dX8_back_32 : decode cX8_back 32 = .ok (.aload_n 0, 1) := by decide +kernel
theorem dX8_back_33 : decode cX8_back 33 = .ok (.getfield 64, 3) := by decide +kernel
theorem dX8_back_36 : decode cX8_back 36 = .ok (.getfield 237, 3) := by decide +kernel
theorem dX8_back_39 : decode cX8_back 39 = .ok (.ireturn, 1) := by decide +kernel
theorem dX8_count_0 : decode cX8_count 0 = .ok (.iload_n 1, 1) := by decide +kernel
theorem dX8_count_1 : decode cX8_count 1 = .ok (.tableswitch 102 0 6 #[43, 51, 59, 70, 78, 86, 94], 43) := by decide +kernel
theorem dX8_count_44 : decode cX8_count 44 = .ok (.aload_n 0, 1) := by decide +kernel
theorem dX8_count_45 : decode cX8_count 45 = .ok (.getfield 19, 3) := by decide +kernel
theorem dX8_count_48 : decode cX8_count 48 = .ok (.getfield 170, 3) := by decide +kernel
theorem dX8_count_51 : decode cX8_count 51 = .ok (.ireturn, 1) := by decide +kernel
theorem dX8_count_52 : decode cX8_count 52 = .ok (.aload_n 0, 1) := by decide +kernel
theorem dX8_count_53 : decode cX8_count 53 = .ok (.getfield 19, 3) := by decide +kernel
theorem dX8_count_56 : decode cX8_count 56 = .ok (.getfield 95, 3) := by decide +kernel
theorem dX8_count_59 : decode cX8_count 59 = .ok (.ireturn, 1) := by decide +kernel
theorem dX8_count_60 : decode cX8_count 60 = .ok (.aload_n 0, 1) := by decide +kernel
theorem dX8_count_61 : decode cX8_count 61 = .ok (.getfield 19, 3) := by decide +kernel
theorem dX8_count_64 : decode cX8_count 64 = .ok (.getfield 111, 3) := by decide +kernel
theorem dX8_count_67 : decode cX8_count 67 = .ok (.getfield 187, 3) := by decide +kernel
theorem dX8_count_70 : decode cX8_count 70 = .ok (.ireturn, 1) := by decide +kernel
theorem dX8_count_71 : decode cX8_count 71 = .ok (.aload_n 0, 1) := by decide +kernel
theorem dX8_count_72 : decode cX8_count 72 = .ok (.getfield 43, 3) := by decide +kernel
theorem dX8_count_75 : decode cX8_count 75 = .ok (.getfield 201, 3) := by decide +kernel
theorem dX8_count_78 : decode cX8_count 78 = .ok (.ireturn, 1) := by decide +kernel
theorem dX8_count_79 : decode cX8_count 79 = .ok (.aload_n 0, 1) := by decide +kernel
theorem dX8_count_80 : decode cX8_count 80 = .ok (.getfield 57, 3) := by decide +kernel
theorem dX8_count_83 : decode cX8_count 83 = .ok (.getfield 194, 3) := by decide +kernel
theorem dX8_count_86 : decode cX8_count 86 = .ok (.ireturn, 1) := by decide +kernel
theorem dX8_count_87 : decode cX8_count 87 = .ok (.aload_n 0, 1) := by decide +kernel
theorem dX8_count_88 : decode cX8_count 88 = .ok (.getfield 64, 3) := by decide +kernel
theorem dX8_count_91 : decode cX8_count 91 = .ok (.getfield 237, 3) := by decide +kernel
theorem dX8_count_94 : decode cX8_count 94 = .ok (.ireturn, 1) := by decide +kernel
theorem dX8_count_95 : decode cX8_count 95 = .ok (.aload_n 0, 1) := by decide +kernel
theorem dX8_count_96 : decode cX8_count 96 = .ok (.getfield 10, 3) := by decide +kernel
theorem dX8_count_99 : decode cX8_count 99 = .ok (.getfield 88, 3) := by decide +kernel
theorem dX8_count_102 : decode cX8_count 102 = .ok (.ireturn, 1) := by decide +kernel
theorem dX8_count_103 : decode cX8_count 103 = .ok (.iconst (-1), 1) := by decide +kernel
theorem dX8_count_104 : decode cX8_count 104 = .ok (.ireturn, 1) := by decide +kernel
set_option maxRecDepth 20000 in
theorem ggX8_layText_X3_readInto : GoodIn wsX8_layText wsX3_readInto := goodIn_r _ [14, 15, 16, 17, 18, 19, 20, 21, 22, 23, 24, 25, 26, 27, 28, 29, 13, 30, 31, 32, 33, 34, 35, 36, 37, 38, 39, 40, 41, 42, 43, 44, 45, 46, 47, 48, 49, 50, 51, 52, 53, 54, 55, 56, 57, 58, 59, 60, 61, 62, 63, 64, 65, 66, 67, 68, 69, 70, 71, 72, 73, 74, 75, 76, 77, 78, 79, 80, 81, 82, 83, 84, 178, 179, 180, 181, 182, 183, 184, 185, 186, 187, 188, 189, 190, 191, 192, 193, 194] (by decide +kernel) (by decide +kernel)
set_option maxRecDepth 20000 in
theorem gX8_layText_X3_readInto : GoodIn wsX8_layText (wsV RX8 91 RX3 yX3_readInto wsX3_readInto) := goodIn_app (goodIn_of _ (by decide +kernel)) ggX8_layText_X3_readInto
set_option maxRecDepth 20000 in
theorem ggX8_layText_X7_canBeLaid : GoodIn wsX8_layText wsX7_canBeLaid := goodIn_r _ [88, 22, 23, 58, 24, 89, 21, 90, 91, 92, 19, 93, 181, 182, 183, 184, 185, 186, 187, 188, 189, 190, 191, 192, 193, 194] (by decide +kernel) (by decide +kernel)
set_option maxRecDepth 20000 in
theorem gX8_layText_X7_canBeLaid : GoodIn wsX8_layText (wsV RX8 241 RX7 yX7_canBeLaid wsX7_canBeLaid) := goodIn_app (goodIn_of _ (by decide +kernel)) ggX8_layText_X7_canBeLaid
set_option maxRecDepth 20000 in
theorem ggX8_layText_X8_followCourse : GoodIn wsX8_layText wsX8_followCourse := goodIn_r _ [97, 98, 3, 99, 100, 101, 102, 103, 104, 105, 106, 107, 108, 109, 110, 111, 112, 113, 114, 115, 116, 117, 118, 119, 120, 121, 122, 123, 19, 124, 21, 125, 126, 127, 128, 129, 130, 131, 132, 133, 134, 135, 136, 137, 138, 139, 140, 52, 141, 142, 143, 144, 145, 146, 147, 148, 59, 149, 150, 151, 152, 153, 154, 155, 156, 25, 157, 158, 159, 160, 161, 162, 163, 164, 165, 166, 181, 182, 183, 184, 185, 186, 187, 188, 189, 190, 191, 192, 193, 194, 195, 196, 197, 198] (by decide +kernel) (by decide +kernel)
set_option maxRecDepth 20000 in
theorem gX8_layText_X8_followCourse : GoodIn wsX8_layText (wsV RX8 181 RX8 yX8_followCourse wsX8_followCourse) := goodIn_app (goodIn_of _ (by decide +kernel)) ggX8_layText_X8_followCourse
theorem dX8_layText_0 : decode cX8_layText 0 = .ok (.aload_n 0, 1) := by decide +kernel
theorem dX8_layText_1 : decode cX8_layText 1 = .ok (.getfield 10, 3) := by decide +kernel
theorem dX8_layText_4 : decode cX8_layText 4 = .ok (.aload_n 0, 1) := by decide +kernel
theorem dX8_layText_5 : decode cX8_layText 5 = .ok (.getfield 23, 3) := by decide +kernel
theorem dX8_layText_8 : decode cX8_layText 8 = .ok (.invokevirtual 91, 3) := by decide +kernel
theorem dX8_layText_11 : decode cX8_layText 11 = .ok (.bipush (-4), 2) := by decide +kernel
theorem dX8_layText_13 : decode cX8_layText 13 = .ok (.if_icmp .ne 13, 3) := by decide +kernel
theorem dX8_layText_16 : decode cX8_layText 16 = .ok (.aload_n 0, 1) := by decide +kernel
theorem dX8_layText_17 : decode cX8_layText 17 = .ok (.getfield 23, 3) := by decide +kernel
theorem dX8_layText_20 : decode cX8_layText 20 = .ok (.invokevirtual 241, 3) := by decide +kernel
theorem dX8_layText_23 : decode cX8_layText 23 = .ok (.ifCond .ne 5, 3) := by decide +kernel
theorem dX8_layText_26 : decode cX8_layText 26 = .ok (.iconst 0, 1) := by decide +kernel
theorem dX8_layText_27 : decode cX8_layText 27 = .ok (.ireturn, 1) := by decide +kernel
theorem dX8_layText_28 : decode cX8_layText 28 = .ok (.aload_n 0, 1) := by decide +kernel
theorem dX8_layText_29 : decode cX8_layText 29 = .ok (.getfield 19, 3) := by decide +kernel
theorem dX8_layText_32 : decode cX8_layText 32 = .ok (.astore_n 1, 1) := by decide +kernel
theorem dX8_layText_33 : decode cX8_layText 33 = .ok (.aload_n 0, 1) := by decide +kernel
theorem dX8_layText_34 : decode cX8_layText 34 = .ok (.aload_n 0, 1) := by decide +kernel
theorem dX8_layText_35 : decode cX8_layText 35 = .ok (.getfield 23, 3) := by decide +kernel
theorem dX8_layText_38 : decode cX8_layText 38 = .ok (.putfield 19, 3) := by decide +kernel
theorem dX8_layText_41 : decode cX8_layText 41 = .ok (.aload_n 0, 1) := by decide +kernel
theorem dX8_layText_42 : decode cX8_layText 42 = .ok (.aload_n 1, 1) := by decide +kernel
theorem dX8_layText_43 : decode cX8_layText 43 = .ok (.putfield 23, 3) := by decide +kernel
theorem dX8_layText_46 : decode cX8_layText 46 = .ok (.aload_n 0, 1) := by decide +kernel
theorem dX8_layText_47 : decode cX8_layText 47 = .ok (.getfield 43, 3) := by decide +kernel
theorem dX8_layText_50 : decode cX8_layText 50 = .ok (.iconst 0, 1) := by decide +kernel
theorem dX8_layText_51 : decode cX8_layText 51 = .ok (.putfield 201, 3) := by decide +kernel
theorem dX8_layText_54 : decode cX8_layText 54 = .ok (.aload_n 0, 1) := by decide +kernel
theorem dX8_layText_55 : decode cX8_layText 55 = .ok (.getfield 57, 3) := by decide +kernel
theorem dX8_layText_58 : decode cX8_layText 58 = .ok (.iconst 0, 1) := by decide +kernel
theorem dX8_layText_59 : decode cX8_layText 59 = .ok (.putfield 194, 3) := by decide +kernel
theorem dX8_layText_62 : decode cX8_layText 62 = .ok (.aload_n 0, 1) := by decide +kernel
theorem dX8_layText_63 : decode cX8_layText 63 = .ok (.getfield 64, 3) := by decide +kernel
theorem dX8_layText_66 : decode cX8_layText 66 = .ok (.iconst 0, 1) := by decide +kernel
theorem dX8_layText_67 : decode cX8_layText 67 = .ok (.putfield 237, 3) := by decide +kernel
theorem dX8_layText_70 : decode cX8_layText 70 = .ok (.aload_n 0, 1) := by decide +kernel
theorem dX8_layText_71 : decode cX8_layText 71 = .ok (.invokevirtual 181, 3) := by decide +kernel
theorem dX8_layText_74 : decode cX8_layText 74 = .ok (.iconst 1, 1) := by decide +kernel
theorem dX8_layText_75 : decode cX8_layText 75 = .ok (.ireturn, 1) := by decide +kernel
set_option maxRecDepth 20000 in
theorem ggX8_followCourse_X1_run : GoodIn wsX8_followCourse wsX1_run := goodIn_r _ [9, 10, 11, 12, 13, 14, 15, 16, 17, 18, 19, 20, 21, 22, 23, 24, 25, 26, 27, 28, 29, 30, 31, 32, 33, 34, 35, 36, 37, 38, 39, 40, 41, 42, 43, 44, 45, 46, 47, 48, 49, 50, 8, 51, 52, 53, 54, 55, 56, 57, 58, 59, 60, 61, 62, 63, 64, 65, 90, 91, 92, 93, 76, 77, 78, 79, 80, 81, 82, 83, 84, 85, 86, 87, 88, 89] (by decide +kernel) (by decide +kernel)
set_option maxRecDepth 20000 in
theorem gX8_followCourse_X1_run : GoodIn wsX8_followCourse (wsV RX8 173 RX1 yX1_run wsX1_run) := goodIn_app (goodIn_of _ (by decide +kernel)) ggX8_followCourse_X1_run
theorem dX8_followCourse_0 : decode cX8_followCourse 0 = .ok (.aload_n 0, 1) := by decide +kernel
theorem dX8_followCourse_1 : decode cX8_followCourse 1 = .ok (.getfield 29, 3) := by decide +kernel
theorem dX8_followCourse_4 : decode cX8_followCourse 4 = .ok (.aload_n 0, 1) := by decide +kernel
theorem dX8_followCourse_5 : decode cX8_followCourse 5 = .ok (.getfield 19, 3) := by decide +kernel
theorem dX8_followCourse_8 : decode cX8_followCourse 8 = .ok (.aload_n 0, 1) := by decide +kernel
theorem dX8_followCourse_9 : decode cX8_followCourse 9 = .ok (.getfield 19, 3) := by decide +kernel
theorem dX8_followCourse_12 : decode cX8_followCourse 12 = .ok (.getfield 111, 3) := by decide +kernel
theorem dX8_followCourse_15 : decode cX8_followCourse 15 = .ok (.getfield 115, 3) := by decide +kernel
theorem dX8_followCourse_18 : decode cX8_followCourse 18 = .ok (.invokevirtual 173, 3) := by decide +kernel
theorem dX8_followCourse_21 : decode cX8_followCourse 21 = .ok (.return_, 1) := by decide +kernel
set_option maxRecDepth 20000 in
theorem ggX8_possibleStarts_X6_agree : GoodIn wsX8_possibleStarts wsX6_agree := goodIn_r _ [9, 10, 11, 12, 13, 14, 15, 16, 17, 18, 19, 20, 21, 22, 23, 24, 25, 26, 27, 28, 29, 30, 31, 32, 33, 34, 35, 36, 37, 38, 58, 59, 60, 61, 62, 63, 49, 50, 51, 52, 53, 54, 55, 56, 57] (by decide +kernel) (by decide +kernel)
set_option maxRecDepth 20000 in
theorem gX8_possibleStarts_X6_agree : GoodIn wsX8_possibleStarts (wsV RX8 206 RX6 yX6_agree wsX6_agree) := goodIn_app (goodIn_of _ (by decide +kernel)) ggX8_possibleStarts_X6_agree
theorem dX8_possibleStarts_0 : decode cX8_possibleStarts 0 = .ok (.iconst 0, 1) := by decide +kernel
theorem dX8_possibleStarts_1 : decode cX8_possibleStarts 1 = .ok (.istore_n 2, 1) := by decide +kernel
theorem dX8_possibleStarts_2 : decode cX8_possibleStarts 2 = .ok (.iconst 0, 1) := by decide +kernel
theorem dX8_possibleStarts_3 : decode cX8_possibleStarts 3 = .ok (.istore_n 3, 1) := by decide +kernel
theorem dX8_possibleStarts_4 : decode cX8_possibleStarts 4 = .ok (.iload_n 3, 1) := by decide +kernel
theorem dX8_possibleStarts_5 : decode cX8_possibleStarts 5 = .ok (.aload_n 0, 1) := by decide +kernel
theorem dX8_possibleStarts_6 : decode cX8_possibleStarts 6 = .ok (.getfield 19, 3) := by decide +kernel
theorem dX8_possibleStarts_9 : decode cX8_possibleStarts 9 = .ok (.getfield 170, 3) := by decide +kernel
theorem dX8_possibleStarts_12 : decode cX8_possibleStarts 12 = .ok (.if_icmp .ge 40, 3) := by decide +kernel
theorem dX8_possibleStarts_15 : decode cX8_possibleStarts 15 = .ok (.aload_n 0, 1) := by decide +kernel
theorem dX8_possibleStarts_16 : decode cX8_possibleStarts 16 = .ok (.getfield 43, 3) := by decide +kernel
theorem dX8_possibleStarts_19 : decode cX8_possibleStarts 19 = .ok (.aload_n 0, 1) := by decide +kernel
theorem dX8_possibleStarts_20 : decode cX8_possibleStarts 20 = .ok (.getfield 19, 3) := by decide +kernel
theorem dX8_possibleStarts_23 : decode cX8_possibleStarts 23 = .ok (.iload_n 1, 1) := by decide +kernel
theorem dX8_possibleStarts_24 : decode cX8_possibleStarts 24 = .ok (.iload_n 3, 1) := by decide +kernel
theorem dX8_possibleStarts_25 : decode cX8_possibleStarts 25 = .ok (.aload_n 0, 1) := by decide +kernel
theorem dX8_possibleStarts_26 : decode cX8_possibleStarts 26 = .ok (.getfield 19, 3) := by decide +kernel
theorem dX8_possibleStarts_29 : decode cX8_possibleStarts 29 = .ok (.getfield 123, 3) := by decide +kernel
theorem dX8_possibleStarts_32 : decode cX8_possibleStarts 32 = .ok (.iload_n 1, 1) := by decide +kernel
theorem dX8_possibleStarts_33 : decode cX8_possibleStarts 33 = .ok (.iaload, 1) := by decide +kernel
theorem dX8_possibleStarts_34 : decode cX8_possibleStarts 34 = .ok (.invokevirtual 206, 3) := by decide +kernel
theorem dX8_possibleStarts_37 : decode cX8_possibleStarts 37 = .ok (.ifCond .eq 9, 3) := by decide +kernel
theorem dX8_possibleStarts_40 : decode cX8_possibleStarts 40 = .ok (.iload_n 2, 1) := by decide +kernel
theorem dX8_possibleStarts_41 : decode cX8_possibleStarts 41 = .ok (.iconst 1, 1) := by decide +kernel
theorem dX8_possibleStarts_42 : decode cX8_possibleStarts 42 = .ok (.iload_n 3, 1) := by decide +kernel
theorem dX8_possibleStarts_43 : decode cX8_possibleStarts 43 = .ok (.ishl, 1) := by decide +kernel
theorem dX8_possibleStarts_44 : decode cX8_possibleStarts 44 = .ok (.ior, 1) := by decide +kernel
theorem dX8_possibleStarts_45 : decode cX8_possibleStarts 45 = .ok (.istore_n 2, 1) := by decide +kernel
theorem dX8_possibleStarts_46 : decode cX8_possibleStarts 46 = .ok (.iinc 3 1, 3) := by decide +kernel
theorem dX8_possibleStarts_49 : decode cX8_possibleStarts 49 = .ok (.goto (-45), 3) := by decide +kernel
theorem dX8_possibleStarts_52 : decode cX8_possibleStarts 52 = .ok (.iload_n 2, 1) := by decide +kernel
theorem dX8_possibleStarts_53 : decode cX8_possibleStarts 53 = .ok (.ireturn, 1) := by decide +kernel
theorem dX8_drawnPlace_0 : decode cX8_drawnPlace 0 = .ok (.ldc2_w 244, 3) := by decide +kernel
theorem dX8_drawnPlace_3 : decode cX8_drawnPlace 3 = .ok (.iload_n 1, 1) := by decide +kernel
theorem dX8_drawnPlace_4 : decode cX8_drawnPlace 4 = .ok (.i2l, 1) := by decide +kernel
theorem dX8_drawnPlace_5 : decode cX8_drawnPlace 5 = .ok (.lmul, 1) := by decide +kernel
theorem dX8_drawnPlace_6 : decode cX8_drawnPlace 6 = .ok (.ldc2_w 246, 3) := by decide +kernel
theorem dX8_drawnPlace_9 : decode cX8_drawnPlace 9 = .ok (.iload_n 2, 1) := by decide +kernel
theorem dX8_drawnPlace_10 : decode cX8_drawnPlace 10 = .ok (.i2l, 1) := by decide +kernel
theorem dX8_drawnPlace_11 : decode cX8_drawnPlace 11 = .ok (.lmul, 1) := by decide +kernel
theorem dX8_drawnPlace_12 : decode cX8_drawnPlace 12 = .ok (.ladd, 1) := by decide +kernel
theorem dX8_drawnPlace_13 : decode cX8_drawnPlace 13 = .ok (.lconst 1, 1) := by decide +kernel
theorem dX8_drawnPlace_14 : decode cX8_drawnPlace 14 = .ok (.ladd, 1) := by decide +kernel
theorem dX8_drawnPlace_15 : decode cX8_drawnPlace 15 = .ok (.lstore_n 3, 1) := by decide +kernel
theorem dX8_drawnPlace_16 : decode cX8_drawnPlace 16 = .ok (.aload_n 0, 1) := by decide +kernel
theorem dX8_drawnPlace_17 : decode cX8_drawnPlace 17 = .ok (.getfield 19, 3) := by decide +kernel
theorem dX8_drawnPlace_20 : decode cX8_drawnPlace 20 = .ok (.getfield 170, 3) := by decide +kernel
theorem dX8_drawnPlace_23 : decode cX8_drawnPlace 23 = .ok (.iconst 1, 1) := by decide +kernel
theorem dX8_drawnPlace_24 : decode cX8_drawnPlace 24 = .ok (.if_icmp .ge 7, 3) := by decide +kernel
theorem dX8_drawnPlace_27 : decode cX8_drawnPlace 27 = .ok (.iconst 0, 1) := by decide +kernel
theorem dX8_drawnPlace_28 : decode cX8_drawnPlace 28 = .ok (.goto 20, 3) := by decide +kernel
theorem dX8_drawnPlace_31 : decode cX8_drawnPlace 31 = .ok (.lload_n 3, 1) := by decide +kernel
theorem dX8_drawnPlace_32 : decode cX8_drawnPlace 32 = .ok (.lload_n 3, 1) := by decide +kernel
theorem dX8_drawnPlace_33 : decode cX8_drawnPlace 33 = .ok (.lmul, 1) := by decide +kernel
theorem dX8_drawnPlace_34 : decode cX8_drawnPlace 34 = .ok (.ldc2_w 248, 3) := by decide +kernel
theorem dX8_drawnPlace_37 : decode cX8_drawnPlace 37 = .ok (.lrem, 1) := by decide +kernel
theorem dX8_drawnPlace_38 : decode cX8_drawnPlace 38 = .ok (.aload_n 0, 1) := by decide +kernel
theorem dX8_drawnPlace_39 : decode cX8_drawnPlace 39 = .ok (.getfield 19, 3) := by decide +kernel
theorem dX8_drawnPlace_42 : decode cX8_drawnPlace 42 = .ok (.getfield 170, 3) := by decide +kernel
theorem dX8_drawnPlace_45 : decode cX8_drawnPlace 45 = .ok (.i2l, 1) := by decide +kernel
theorem dX8_drawnPlace_46 : decode cX8_drawnPlace 46 = .ok (.lrem, 1) := by decide +kernel
theorem dX8_drawnPlace_47 : decode cX8_drawnPlace 47 = .ok (.l2i, 1) := by decide +kernel
theorem dX8_drawnPlace_48 : decode cX8_drawnPlace 48 = .ok (.ireturn, 1) := by decide +kernel
theorem dX8_isDay_0 : decode cX8_isDay 0 = .ok (.iload_n 0, 1) := by decide +kernel
theorem dX8_isDay_1 : decode cX8_isDay 1 = .ok (.iconst 1, 1) := by decide +kernel
theorem dX8_isDay_2 : decode cX8_isDay 2 = .ok (.if_icmp .lt 13, 3) := by decide +kernel
theorem dX8_isDay_5 : decode cX8_isDay 5 = .ok (.iload_n 0, 1) := by decide +kernel
theorem dX8_isDay_6 : decode cX8_isDay 6 = .ok (.bipush 60, 2) := by decide +kernel
theorem dX8_isDay_8 : decode cX8_isDay 8 = .ok (.if_icmp .gt 7, 3) := by decide +kernel
theorem dX8_isDay_11 : decode cX8_isDay 11 = .ok (.iconst 1, 1) := by decide +kernel
theorem dX8_isDay_12 : decode cX8_isDay 12 = .ok (.goto 4, 3) := by decide +kernel
theorem dX8_isDay_15 : decode cX8_isDay 15 = .ok (.iconst 0, 1) := by decide +kernel
theorem dX8_isDay_16 : decode cX8_isDay 16 = .ok (.ireturn, 1) := by decide +kernel
theorem dX8_isZeroOrOne_0 : decode cX8_isZeroOrOne 0 = .ok (.iload_n 0, 1) := by decide +kernel
theorem dX8_isZeroOrOne_1 : decode cX8_isZeroOrOne 1 = .ok (.ifCond .eq 8, 3) := by decide +kernel
theorem dX8_isZeroOrOne_4 : decode cX8_isZeroOrOne 4 = .ok (.iload_n 0, 1) := by decide +kernel
theorem dX8_isZeroOrOne_5 : decode cX8_isZeroOrOne 5 = .ok (.iconst 1, 1) := by decide +kernel
theorem dX8_isZeroOrOne_6 : decode cX8_isZeroOrOne 6 = .ok (.if_icmp .ne 7, 3) := by decide +kernel
theorem dX8_isZeroOrOne_9 : decode cX8_isZeroOrOne 9 = .ok (.iconst 1, 1) := by decide +kernel
theorem dX8_isZeroOrOne_10 : decode cX8_isZeroOrOne 10 = .ok (.goto 4, 3) := by decide +kernel
theorem dX8_isZeroOrOne_13 : decode cX8_isZeroOrOne 13 = .ok (.iconst 0, 1) := by decide +kernel
theorem dX8_isZeroOrOne_14 : decode cX8_isZeroOrOne 14 = .ok (.ireturn, 1) := by decide +kernel
theorem dX8_commonDivisor_0 : decode cX8_commonDivisor 0 = .ok (.iload_n 0, 1) := by decide +kernel
theorem dX8_commonDivisor_1 : decode cX8_commonDivisor 1 = .ok (.istore_n 2, 1) := by decide +kernel
theorem dX8_commonDivisor_2 : decode cX8_commonDivisor 2 = .ok (.iload_n 1, 1) := by decide +kernel
theorem dX8_commonDivisor_3 : decode cX8_commonDivisor 3 = .ok (.istore_n 3, 1) := by decide +kernel
theorem dX8_commonDivisor_4 : decode cX8_commonDivisor 4 = .ok (.iconst 0, 1) := by decide +kernel
theorem dX8_commonDivisor_5 : decode cX8_commonDivisor 5 = .ok (.istore 4, 2) := by decide +kernel
theorem dX8_commonDivisor_7 : decode cX8_commonDivisor 7 = .ok (.iload 4, 2) := by decide +kernel
theorem dX8_commonDivisor_9 : decode cX8_commonDivisor 9 = .ok (.bipush 64, 2) := by decide +kernel
theorem dX8_commonDivisor_11 : decode cX8_commonDivisor 11 = .ok (.if_icmp .ge 23, 3) := by decide +kernel
theorem dX8_commonDivisor_14 : decode cX8_commonDivisor 14 = .ok (.iload_n 3, 1) := by decide +kernel
theorem dX8_commonDivisor_15 : decode cX8_commonDivisor 15 = .ok (.ifCond .eq 19, 3) := by decide +kernel
theorem dX8_commonDivisor_18 : decode cX8_commonDivisor 18 = .ok (.iload_n 2, 1) := by decide +kernel
theorem dX8_commonDivisor_19 : decode cX8_commonDivisor 19 = .ok (.iload_n 3, 1) := by decide +kernel
theorem dX8_commonDivisor_20 : decode cX8_commonDivisor 20 = .ok (.irem, 1) := by decide +kernel
theorem dX8_commonDivisor_21 : decode cX8_commonDivisor 21 = .ok (.istore 5, 2) := by decide +kernel
theorem dX8_commonDivisor_23 : decode cX8_commonDivisor 23 = .ok (.iload_n 3, 1) := by decide +kernel
theorem dX8_commonDivisor_24 : decode cX8_commonDivisor 24 = .ok (.istore_n 2, 1) := by decide +kernel
theorem dX8_commonDivisor_25 : decode cX8_commonDivisor 25 = .ok (.iload 5, 2) := by decide +kernel
theorem dX8_commonDivisor_27 : decode cX8_commonDivisor 27 = .ok (.istore_n 3, 1) := by decide +kernel
theorem dX8_commonDivisor_28 : decode cX8_commonDivisor 28 = .ok (.iinc 4 1, 3) := by decide +kernel
theorem dX8_commonDivisor_31 : decode cX8_commonDivisor 31 = .ok (.goto (-24), 3) := by decide +kernel
theorem dX8_commonDivisor_34 : decode cX8_commonDivisor 34 = .ok (.iload_n 2, 1) := by decide +kernel
theorem dX8_commonDivisor_35 : decode cX8_commonDivisor 35 = .ok (.ireturn, 1) := by decide +kernel
set_option maxRecDepth 20000 in
theorem ggX9_init_X9_noTown : GoodIn wsX9_init wsX9_noTown := goodIn_r _ [36, 6, 9, 15, 12, 13, 41, 42, 43, 44, 45, 46, 47, 48, 49, 50, 51, 52, 53, 54, 55, 56, 57, 58, 59, 60, 61, 62, 63, 64, 65, 66, 67, 68, 69, 70, 71, 72, 73] (by decide +kernel) (by decide +kernel)
set_option maxRecDepth 20000 in
theorem gX9_init_X9_noTown : GoodIn wsX9_init (wsV RX9 91 RX9 yX9_noTown wsX9_noTown) := goodIn_app (goodIn_of _ (by decide +kernel)) ggX9_init_X9_noTown
set_option maxRecDepth 20000 in
theorem ggX9_init_X9_addLook : GoodIn wsX9_init wsX9_addLook := goodIn_r _ [40, 16, 15, 17, 18, 41, 42, 43, 44, 45, 46, 47, 48, 49, 50, 51, 52, 53, 54, 55, 56, 57, 58, 59, 60, 61, 62, 63, 64, 65, 66, 67, 68, 69, 70, 71, 72, 73] (by decide +kernel) (by decide +kernel)
set_option maxRecDepth 20000 in
theorem gX9_init_X9_addLook : GoodIn wsX9_init (wsV RX9 95 RX9 yX9_addLook wsX9_addLook) := goodIn_app (goodIn_of _ (by decide +kernel)) ggX9_init_X9_addLook
theorem dX9_init_0 : decode cX9_init 0 = .ok (.aload_n 0, 1) := by decide +kernel
theorem dX9_init_1 : decode cX9_init 1 = .ok (.invokespecial 1, 3) := by decide +kernel
theorem dX9_init_4 : decode cX9_init 4 = .ok (.aload_n 0, 1) := by decide +kernel
theorem dX9_init_5 : decode cX9_init 5 = .ok (.sipush 300, 3) := by decide +kernel
theorem dX9_init_8 : decode cX9_init 8 = .ok (.newarray .int, 2) := by decide +kernel
theorem dX9_init_10 : decode cX9_init 10 = .ok (.putfield 7, 3) := by decide +kernel
theorem dX9_init_13 : decode cX9_init 13 = .ok (.aload_n 0, 1) := by decide +kernel
theorem dX9_init_14 : decode cX9_init 14 = .ok (.iconst 2, 1) := by decide +kernel
theorem dX9_init_15 : decode cX9_init 15 = .ok (.newarray .int, 2) := by decide +kernel
theorem dX9_init_17 : decode cX9_init 17 = .ok (.putfield 13, 3) := by decide +kernel
theorem dX9_init_20 : decode cX9_init 20 = .ok (.aload_n 0, 1) := by decide +kernel
theorem dX9_init_21 : decode cX9_init 21 = .ok (.bipush 18, 2) := by decide +kernel
theorem dX9_init_23 : decode cX9_init 23 = .ok (.newarray .int, 2) := by decide +kernel
theorem dX9_init_25 : decode cX9_init 25 = .ok (.putfield 16, 3) := by decide +kernel
theorem dX9_init_28 : decode cX9_init 28 = .ok (.aload_n 0, 1) := by decide +kernel
theorem dX9_init_29 : decode cX9_init 29 = .ok (.bipush 18, 2) := by decide +kernel
theorem dX9_init_31 : decode cX9_init 31 = .ok (.newarray .int, 2) := by decide +kernel
theorem dX9_init_33 : decode cX9_init 33 = .ok (.putfield 19, 3) := by decide +kernel
theorem dX9_init_36 : decode cX9_init 36 = .ok (.aload_n 0, 1) := by decide +kernel
theorem dX9_init_37 : decode cX9_init 37 = .ok (.iconst 2, 1) := by decide +kernel
theorem dX9_init_38 : decode cX9_init 38 = .ok (.newarray .int, 2) := by decide +kernel
theorem dX9_init_40 : decode cX9_init 40 = .ok (.putfield 22, 3) := by decide +kernel
theorem dX9_init_43 : decode cX9_init 43 = .ok (.aload_n 0, 1) := by decide +kernel
theorem dX9_init_44 : decode cX9_init 44 = .ok (.bipush 10, 2) := by decide +kernel
theorem dX9_init_46 : decode cX9_init 46 = .ok (.newarray .int, 2) := by decide +kernel
theorem dX9_init_48 : decode cX9_init 48 = .ok (.putfield 25, 3) := by decide +kernel
theorem dX9_init_51 : decode cX9_init 51 = .ok (.aload_n 0, 1) := by decide +kernel
theorem dX9_init_52 : decode cX9_init 52 = .ok (.bipush 10, 2) := by decide +kernel
theorem dX9_init_54 : decode cX9_init 54 = .ok (.newarray .int, 2) := by decide +kernel
theorem dX9_init_56 : decode cX9_init 56 = .ok (.putfield 28, 3) := by decide +kernel
theorem dX9_init_59 : decode cX9_init 59 = .ok (.aload_n 0, 1) := by decide +kernel
theorem dX9_init_60 : decode cX9_init 60 = .ok (.iconst 2, 1) := by decide +kernel
theorem dX9_init_61 : decode cX9_init 61 = .ok (.newarray .int, 2) := by decide +kernel
theorem dX9_init_63 : decode cX9_init 63 = .ok (.putfield 31, 3) := by decide +kernel
theorem dX9_init_66 : decode cX9_init 66 = .ok (.aload_n 0, 1) := by decide +kernel
theorem dX9_init_67 : decode cX9_init 67 = .ok (.iconst 2, 1) := by decide +kernel
theorem dX9_init_68 : decode cX9_init 68 = .ok (.newarray .int, 2) := by decide +kernel
theorem dX9_init_70 : decode cX9_init 70 = .ok (.putfield 34, 3) := by decide +kernel
theorem dX9_init_73 : decode cX9_init 73 = .ok (.aload_n 0, 1) := by decide +kernel
theorem dX9_init_74 : decode cX9_init 74 = .ok (.bipush 20, 2) := by decide +kernel
theorem dX9_init_76 : decode cX9_init 76 = .ok (.newarray .int, 2) := by decide +kernel
theorem dX9_init_78 : decode cX9_init 78 = .ok (.putfield 37, 3) := by decide +kernel
theorem dX9_init_81 : decode cX9_init 81 = .ok (.aload_n 0, 1) := by decide +kernel
theorem dX9_init_82 : decode cX9_init 82 = .ok (.iconst 4, 1) := by decide +kernel
theorem dX9_init_83 : decode cX9_init 83 = .ok (.newarray .int, 2) := by decide +kernel
theorem dX9_init_85 : decode cX9_init 85 = .ok (.putfield 40, 3) := by decide +kernel
theorem dX9_init_88 : decode cX9_init 88 = .ok (.aload_n 0, 1) := by decide +kernel
theorem dX9_init_89 : decode cX9_init 89 = .ok (.bipush 36, 2) := by decide +kernel
theorem dX9_init_91 : decode cX9_init 91 = .ok (.newarray .int, 2) := by decide +kernel
theorem dX9_init_93 : decode cX9_init 93 = .ok (.putfield 43, 3) := by decide +kernel
theorem dX9_init_96 : decode cX9_init 96 = .ok (.aload_n 0, 1) := by decide +kernel
theorem dX9_init_97 : decode cX9_init 97 = .ok (.bipush 36, 2) := by decide +kernel
theorem dX9_init_99 : decode cX9_init 99 = .ok (.newarray .int, 2) := by decide +kernel
theorem dX9_init_101 : decode cX9_init 101 = .ok (.putfield 46, 3) := by decide +kernel
theorem dX9_init_104 : decode cX9_init 104 = .ok (.aload_n 0, 1) := by decide +kernel
theorem dX9_init_105 : decode cX9_init 105 = .ok (.bipush 36, 2) := by decide +kernel
theorem dX9_init_107 : decode cX9_init 107 = .ok (.newarray .int, 2) := by decide +kernel
theorem dX9_init_109 : decode cX9_init 109 = .ok (.putfield 49, 3) := by decide +kernel
theorem dX9_init_112 : decode cX9_init 112 = .ok (.aload_n 0, 1) := by decide +kernel
theorem dX9_init_113 : decode cX9_init 113 = .ok (.bipush 16, 2) := by decide +kernel
theorem dX9_init_115 : decode cX9_init 115 = .ok (.newarray .int, 2) := by decide +kernel
theorem dX9_init_117 : decode cX9_init 117 = .ok (.putfield 52, 3) := by decide +kernel
theorem dX9_init_120 : decode cX9_init 120 = .ok (.aload_n 0, 1) := by decide +kernel
theorem dX9_init_121 : decode cX9_init 121 = .ok (.bipush 8, 2) := by decide +kernel
theorem dX9_init_123 : decode cX9_init 123 = .ok (.newarray .int, 2) := by decide +kernel
theorem dX9_init_125 : decode cX9_init 125 = .ok (.putfield 55, 3) := by decide +kernel
theorem dX9_init_128 : decode cX9_init 128 = .ok (.aload_n 0, 1) := by decide +kernel
theorem dX9_init_129 : decode cX9_init 129 = .ok (.bipush 8, 2) := by decide +kernel
theorem dX9_init_131 : decode cX9_init 131 = .ok (.newarray .int, 2) := by decide +kernel
theorem dX9_init_133 : decode cX9_init 133 = .ok (.putfield 58, 3) := by decide +kernel
theorem dX9_init_136 : decode cX9_init 136 = .ok (.aload_n 0, 1) := by decide +kernel
theorem dX9_init_137 : decode cX9_init 137 = .ok (.bipush 8, 2) := by decide +kernel
theorem dX9_init_139 : decode cX9_init 139 = .ok (.newarray .int, 2) := by decide +kernel
theorem dX9_init_141 : decode cX9_init 141 = .ok (.putfield 61, 3) := by decide +kernel
theorem dX9_init_144 : decode cX9_init 144 = .ok (.aload_n 0, 1) := by decide +kernel
theorem dX9_init_145 : decode cX9_init 145 = .ok (.bipush 8, 2) := by decide +kernel
theorem dX9_init_147 : decode cX9_init 147 = .ok (.newarray .int, 2) := by decide +kernel
theorem dX9_init_149 : decode cX9_init 149 = .ok (.putfield 64, 3) := by decide +kernel
theorem dX9_init_152 : decode cX9_init 152 = .ok (.aload_n 0, 1) := by decide +kernel
theorem dX9_init_153 : decode cX9_init 153 = .ok (.iconst 3, 1) := by decide +kernel
theorem dX9_init_154 : decode cX9_init 154 = .ok (.newarray .int, 2) := by decide +kernel
theorem dX9_init_156 : decode cX9_init 156 = .ok (.putfield 67, 3) := by decide +kernel
theorem dX9_init_159 : decode cX9_init 159 = .ok (.aload_n 0, 1) := by decide +kernel
theorem dX9_init_160 : decode cX9_init 160 = .ok (.iconst 5, 1) := by decide +kernel
theorem dX9_init_161 : decode cX9_init 161 = .ok (.newarray .int, 2) := by decide +kernel
theorem dX9_init_163 : decode cX9_init 163 = .ok (.putfield 70, 3) := by decide +kernel
theorem dX9_init_166 : decode cX9_init 166 = .ok (.aload_n 0, 1) := by decide +kernel
theorem dX9_init_167 : decode cX9_init 167 = .ok (.iconst 5, 1) := by decide +kernel
theorem dX9_init_168 : decode cX9_init 168 = .ok (.newarray .int, 2) := by decide +kernel
theorem dX9_init_170 : decode cX9_init 170 = .ok (.putfield 73, 3) := by decide +kernel
theorem dX9_init_173 : decode cX9_init 173 = .ok (.aload_n 0, 1) := by decide +kernel
theorem dX9_init_174 : decode cX9_init 174 = .ok (.iconst 5, 1) := by decide +kernel
theorem dX9_init_175 : decode cX9_init 175 = .ok (.newarray .int, 2) := by decide +kernel
theorem dX9_init_177 : decode cX9_init 177 = .ok (.putfield 76, 3) := by decide +kernel
theorem dX9_init_180 : decode cX9_init 180 = .ok (.aload_n 0, 1) := by decide +kernel
theorem dX9_init_181 : decode cX9_init 181 = .ok (.sipush 512, 3) := by decide +kernel
theorem dX9_init_184 : decode cX9_init 184 = .ok (.newarray .int, 2) := by decide +kernel
theorem dX9_init_186 : decode cX9_init 186 = .ok (.putfield 79, 3) := by decide +kernel
theorem dX9_init_189 : decode cX9_init 189 = .ok (.aload_n 0, 1) := by decide +kernel
theorem dX9_init_190 : decode cX9_init 190 = .ok (.sipush 512, 3) := by decide +kernel
theorem dX9_init_193 : decode cX9_init 193 = .ok (.newarray .int, 2) := by decide +kernel
theorem dX9_init_195 : decode cX9_init 195 = .ok (.putfield 82, 3) := by decide +kernel
theorem dX9_init_198 : decode cX9_init 198 = .ok (.aload_n 0, 1) := by decide +kernel
theorem dX9_init_199 : decode cX9_init 199 = .ok (.bipush 9, 2) := by decide +kernel
theorem dX9_init_201 : decode cX9_init 201 = .ok (.newarray .int, 2) := by decide +kernel
theorem dX9_init_203 : decode cX9_init 203 = .ok (.putfield 85, 3) := by decide +kernel
theorem dX9_init_206 : decode cX9_init 206 = .ok (.aload_n 0, 1) := by decide +kernel
theorem dX9_init_207 : decode cX9_init 207 = .ok (.iconst 5, 1) := by decide +kernel
theorem dX9_init_208 : decode cX9_init 208 = .ok (.newarray .int, 2) := by decide +kernel
theorem dX9_init_210 : decode cX9_init 210 = .ok (.putfield 88, 3) := by decide +kernel
theorem dX9_init_213 : decode cX9_init 213 = .ok (.aload_n 0, 1) := by decide +kernel
theorem dX9_init_214 : decode cX9_init 214 = .ok (.iconst 0, 1) := by decide +kernel
theorem dX9_init_215 : decode cX9_init 215 = .ok (.invokevirtual 91, 3) := by decide +kernel
theorem dX9_init_218 : decode cX9_init 218 = .ok (.aload_n 0, 1) := by decide +kernel
theorem dX9_init_219 : decode cX9_init 219 = .ok (.getfield 13, 3) := by decide +kernel
theorem dX9_init_222 : decode cX9_init 222 = .ok (.iconst 0, 1) := by decide +kernel
theorem dX9_init_223 : decode cX9_init 223 = .ok (.iconst 3, 1) := by decide +kernel
theorem dX9_init_224 : decode cX9_init 224 = .ok (.iastore, 1) := by decide +kernel
theorem dX9_init_225 : decode cX9_init 225 = .ok (.aload_n 0, 1) := by decide +kernel
theorem dX9_init_226 : decode cX9_init 226 = .ok (.getfield 19, 3) := by decide +kernel
theorem dX9_init_229 : decode cX9_init 229 = .ok (.iconst 0, 1) := by decide +kernel
theorem dX9_init_230 : decode cX9_init 230 = .ok (.iconst 5, 1) := by decide +kernel
theorem dX9_init_231 : decode cX9_init 231 = .ok (.iastore, 1) := by decide +kernel
theorem dX9_init_232 : decode cX9_init 232 = .ok (.aload_n 0, 1) := by decide +kernel
theorem dX9_init_233 : decode cX9_init 233 = .ok (.getfield 19, 3) := by decide +kernel
theorem dX9_init_236 : decode cX9_init 236 = .ok (.iconst 1, 1) := by decide +kernel
theorem dX9_init_237 : decode cX9_init 237 = .ok (.iconst 5, 1) := by decide +kernel
theorem dX9_init_238 : decode cX9_init 238 = .ok (.iastore, 1) := by decide +kernel
theorem dX9_init_239 : decode cX9_init 239 = .ok (.aload_n 0, 1) := by decide +kernel
theorem dX9_init_240 : decode cX9_init 240 = .ok (.getfield 16, 3) := by decide +kernel
theorem dX9_init_243 : decode cX9_init 243 = .ok (.iconst 2, 1) := by decide +kernel
theorem dX9_init_244 : decode cX9_init 244 = .ok (.iconst 1, 1) := by decide +kernel
theorem dX9_init_245 : decode cX9_init 245 = .ok (.iastore, 1) := by decide +kernel
theorem dX9_init_246 : decode cX9_init 246 = .ok (.aload_n 0, 1) := by decide +kernel
theorem dX9_init_247 : decode cX9_init 247 = .ok (.getfield 19, 3) := by decide +kernel
theorem dX9_init_250 : decode cX9_init 250 = .ok (.iconst 2, 1) := by decide +kernel
theorem dX9_init_251 : decode cX9_init 251 = .ok (.iconst 2, 1) := by decide +kernel
theorem dX9_init_252 : decode cX9_init 252 = .ok (.iastore, 1) := by decide +kernel
theorem dX9_init_253 : decode cX9_init 253 = .ok (.aload_n 0, 1) := by decide +kernel
theorem dX9_init_254 : decode cX9_init 254 = .ok (.getfield 22, 3) := by decide +kernel
theorem dX9_init_257 : decode cX9_init 257 = .ok (.iconst 0, 1) := by decide +kernel
theorem dX9_init_258 : decode cX9_init 258 = .ok (.iconst 2, 1) := by decide +kernel
theorem dX9_init_259 : decode cX9_init 259 = .ok (.iastore, 1) := by decide +kernel
theorem dX9_init_260 : decode cX9_init 260 = .ok (.aload_n 0, 1) := by decide +kernel
theorem dX9_init_261 : decode cX9_init 261 = .ok (.getfield 25, 3) := by decide +kernel
theorem dX9_init_264 : decode cX9_init 264 = .ok (.iconst 0, 1) := by decide +kernel
theorem dX9_init_265 : decode cX9_init 265 = .ok (.bipush 6, 2) := by decide +kernel
theorem dX9_init_267 : decode cX9_init 267 = .ok (.iastore, 1) := by decide +kernel
theorem dX9_init_268 : decode cX9_init 268 = .ok (.aload_n 0, 1) := by decide +kernel
theorem dX9_init_269 : decode cX9_init 269 = .ok (.getfield 37, 3) := by decide +kernel
theorem dX9_init_272 : decode cX9_init 272 = .ok (.iconst 1, 1) := by decide +kernel
theorem dX9_init_273 : decode cX9_init 273 = .ok (.iconst 2, 1) := by decide +kernel
theorem dX9_init_274 : decode cX9_init 274 = .ok (.iastore, 1) := by decide +kernel
theorem dX9_init_275 : decode cX9_init 275 = .ok (.aload_n 0, 1) := by decide +kernel
theorem dX9_init_276 : decode cX9_init 276 = .ok (.getfield 25, 3) := by decide +kernel
theorem dX9_init_279 : decode cX9_init 279 = .ok (.iconst 1, 1) := by decide +kernel
theorem dX9_init_280 : decode cX9_init 280 = .ok (.bipush 6, 2) := by decide +kernel
theorem dX9_init_282 : decode cX9_init 282 = .ok (.iastore, 1) := by decide +kernel
theorem dX9_init_283 : decode cX9_init 283 = .ok (.aload_n 0, 1) := by decide +kernel
theorem dX9_init_284 : decode cX9_init 284 = .ok (.getfield 28, 3) := by decide +kernel
theorem dX9_init_287 : decode cX9_init 287 = .ok (.iconst 1, 1) := by decide +kernel
theorem dX9_init_288 : decode cX9_init 288 = .ok (.iconst 1, 1) := by decide +kernel
theorem dX9_init_289 : decode cX9_init 289 = .ok (.iastore, 1) := by decide +kernel
theorem dX9_init_290 : decode cX9_init 290 = .ok (.aload_n 0, 1) := by decide +kernel
theorem dX9_init_291 : decode cX9_init 291 = .ok (.iconst 0, 1) := by decide +kernel
theorem dX9_init_292 : decode cX9_init 292 = .ok (.iconst 0, 1) := by decide +kernel
theorem dX9_init_293 : decode cX9_init 293 = .ok (.iconst 1, 1) := by decide +kernel
theorem dX9_init_294 : decode cX9_init 294 = .ok (.iconst 1, 1) := by decide +kernel
theorem dX9_init_295 : decode cX9_init 295 = .ok (.invokevirtual 95, 3) := by decide +kernel
theorem dX9_init_298 : decode cX9_init 298 = .ok (.aload_n 0, 1) := by decide +kernel
theorem dX9_init_299 : decode cX9_init 299 = .ok (.iconst 0, 1) := by decide +kernel
theorem dX9_init_300 : decode cX9_init 300 = .ok (.iconst 1, 1) := by decide +kernel
theorem dX9_init_301 : decode cX9_init 301 = .ok (.iconst 2, 1) := by decide +kernel
theorem dX9_init_302 : decode cX9_init 302 = .ok (.iconst 2, 1) := by decide +kernel
theorem dX9_init_303 : decode cX9_init 303 = .ok (.invokevirtual 95, 3) := by decide +kernel
theorem dX9_init_306 : decode cX9_init 306 = .ok (.return_, 1) := by decide +kernel
theorem dX9_in_0 : decode cX9_in 0 = .ok (.lload_n 0, 1) := by decide +kernel
theorem dX9_in_1 : decode cX9_in 1 = .ok (.lload_n 2, 1) := by decide +kernel
theorem dX9_in_2 : decode cX9_in 2 = .ok (.lcmp, 1) := by decide +kernel
theorem dX9_in_3 : decode cX9_in 3 = .ok (.ifCond .lt 14, 3) := by decide +kernel
theorem dX9_in_6 : decode cX9_in 6 = .ok (.lload_n 0, 1) := by decide +kernel
theorem dX9_in_7 : decode cX9_in 7 = .ok (.lload 4, 2) := by decide +kernel
theorem dX9_in_9 : decode cX9_in 9 = .ok (.lcmp, 1) := by decide +kernel
theorem dX9_in_10 : decode cX9_in 10 = .ok (.ifCond .gt 7, 3) := by decide +kernel
theorem dX9_in_13 : decode cX9_in 13 = .ok (.iconst 1, 1) := by decide +kernel
theorem dX9_in_14 : decode cX9_in 14 = .ok (.goto 4, 3) := by decide +kernel
theorem dX9_in_17 : decode cX9_in 17 = .ok (.iconst 0, 1) := by decide +kernel
theorem dX9_in_18 : decode cX9_in 18 = .ok (.ireturn, 1) := by decide +kernel
theorem dX9_noTown_0 : decode cX9_noTown 0 = .ok (.aload_n 0, 1) := by decide +kernel
theorem dX9_noTown_1 : decode cX9_noTown 1 = .ok (.getfield 13, 3) := by decide +kernel
theorem dX9_noTown_4 : decode cX9_noTown 4 = .ok (.iload_n 1, 1) := by decide +kernel
theorem dX9_noTown_5 : decode cX9_noTown 5 = .ok (.iconst 0, 1) := by decide +kernel
theorem dX9_noTown_6 : decode cX9_noTown 6 = .ok (.iastore, 1) := by decide +kernel
theorem dX9_noTown_7 : decode cX9_noTown 7 = .ok (.aload_n 0, 1) := by decide +kernel
theorem dX9_noTown_8 : decode cX9_noTown 8 = .ok (.getfield 22, 3) := by decide +kernel
theorem dX9_noTown_11 : decode cX9_noTown 11 = .ok (.iload_n 1, 1) := by decide +kernel
theorem dX9_noTown_12 : decode cX9_noTown 12 = .ok (.iconst 0, 1) := by decide +kernel
theorem dX9_noTown_13 : decode cX9_noTown 13 = .ok (.iastore, 1) := by decide +kernel
theorem dX9_noTown_14 : decode cX9_noTown 14 = .ok (.aload_n 0, 1) := by decide +kernel
theorem dX9_noTown_15 : decode cX9_noTown 15 = .ok (.getfield 40, 3) := by decide +kernel
theorem dX9_noTown_18 : decode cX9_noTown 18 = .ok (.iload_n 1, 1) := by decide +kernel
theorem dX9_noTown_19 : decode cX9_noTown 19 = .ok (.iconst 0, 1) := by decide +kernel
theorem dX9_noTown_20 : decode cX9_noTown 20 = .ok (.iastore, 1) := by decide +kernel
theorem dX9_noTown_21 : decode cX9_noTown 21 = .ok (.aload_n 0, 1) := by decide +kernel
theorem dX9_noTown_22 : decode cX9_noTown 22 = .ok (.getfield 31, 3) := by decide +kernel
theorem dX9_noTown_25 : decode cX9_noTown 25 = .ok (.iload_n 1, 1) := by decide +kernel
theorem dX9_noTown_26 : decode cX9_noTown 26 = .ok (.iconst 0, 1) := by decide +kernel
theorem dX9_noTown_27 : decode cX9_noTown 27 = .ok (.iastore, 1) := by decide +kernel
theorem dX9_noTown_28 : decode cX9_noTown 28 = .ok (.aload_n 0, 1) := by decide +kernel
theorem dX9_noTown_29 : decode cX9_noTown 29 = .ok (.getfield 34, 3) := by decide +kernel
theorem dX9_noTown_32 : decode cX9_noTown 32 = .ok (.iload_n 1, 1) := by decide +kernel
theorem dX9_noTown_33 : decode cX9_noTown 33 = .ok (.iconst 1, 1) := by decide +kernel
theorem dX9_noTown_34 : decode cX9_noTown 34 = .ok (.iastore, 1) := by decide +kernel
theorem dX9_noTown_35 : decode cX9_noTown 35 = .ok (.return_, 1) := by decide +kernel
set_option maxRecDepth 20000 in
theorem ggX9_write_X9_in : GoodIn wsX9_write wsX9_in := goodIn_r _ [8] (by decide +kernel) (by decide +kernel)
set_option maxRecDepth 20000 in
theorem gX9_write_X9_in : GoodIn wsX9_write (va_wsS RX9 101 yX9_in wsX9_in) := goodIn_app (goodIn_of _ (by decide +kernel)) ggX9_write_X9_in
theorem dX9_write_0 : decode cX9_write 0 = .ok (.iload_n 1, 1) := by decide +kernel
theorem dX9_write_1 : decode cX9_write 1 = .ok (.i2l, 1) := by decide +kernel
theorem dX9_write_2 : decode cX9_write 2 = .ok (.lconst 1, 1) := by decide +kernel
theorem dX9_write_3 : decode cX9_write 3 = .ok (.ldc2_w 99, 3) := by decide +kernel
theorem dX9_write_6 : decode cX9_write 6 = .ok (.invokestatic 101, 3) := by decide +kernel
theorem dX9_write_9 : decode cX9_write 9 = .ok (.ifCond .ne 5, 3) := by decide +kernel
theorem dX9_write_12 : decode cX9_write 12 = .ok (.iconst (-1), 1) := by decide +kernel
theorem dX9_write_13 : decode cX9_write 13 = .ok (.ireturn, 1) := by decide +kernel
theorem dX9_write_14 : decode cX9_write 14 = .ok (.aload_n 0, 1) := by decide +kernel
theorem dX9_write_15 : decode cX9_write 15 = .ok (.getfield 105, 3) := by decide +kernel
theorem dX9_write_18 : decode cX9_write 18 = .ok (.iload_n 1, 1) := by decide +kernel
theorem dX9_write_19 : decode cX9_write 19 = .ok (.iadd, 1) := by decide +kernel
theorem dX9_write_20 : decode cX9_write 20 = .ok (.sipush 300, 3) := by decide +kernel
theorem dX9_write_23 : decode cX9_write 23 = .ok (.if_icmp .le 6, 3) := by decide +kernel
theorem dX9_write_26 : decode cX9_write 26 = .ok (.bipush (-3), 2) := by decide +kernel
theorem dX9_write_28 : decode cX9_write 28 = .ok (.ireturn, 1) := by decide +kernel
theorem dX9_write_29 : decode cX9_write 29 = .ok (.iload_n 1, 1) := by decide +kernel
theorem dX9_write_30 : decode cX9_write 30 = .ok (.iconst 1, 1) := by decide +kernel
theorem dX9_write_31 : decode cX9_write 31 = .ok (.isub, 1) := by decide +kernel
theorem dX9_write_32 : decode cX9_write 32 = .ok (.istore 4, 2) := by decide +kernel
theorem dX9_write_34 : decode cX9_write 34 = .ok (.iload 4, 2) := by decide +kernel
theorem dX9_write_36 : decode cX9_write 36 = .ok (.ifCond .lt 40, 3) := by decide +kernel
theorem dX9_write_39 : decode cX9_write 39 = .ok (.aload_n 0, 1) := by decide +kernel
theorem dX9_write_40 : decode cX9_write 40 = .ok (.getfield 7, 3) := by decide +kernel
theorem dX9_write_43 : decode cX9_write 43 = .ok (.aload_n 0, 1) := by decide +kernel
theorem dX9_write_44 : decode cX9_write 44 = .ok (.getfield 105, 3) := by decide +kernel
theorem dX9_write_47 : decode cX9_write 47 = .ok (.lload_n 2, 1) := by decide +kernel
theorem dX9_write_48 : decode cX9_write 48 = .ok (.bipush 8, 2) := by decide +kernel
theorem dX9_write_50 : decode cX9_write 50 = .ok (.iload 4, 2) := by decide +kernel
theorem dX9_write_52 : decode cX9_write 52 = .ok (.imul, 1) := by decide +kernel
theorem dX9_write_53 : decode cX9_write 53 = .ok (.lshr, 1) := by decide +kernel
theorem dX9_write_54 : decode cX9_write 54 = .ok (.ldc2_w 109, 3) := by decide +kernel
theorem dX9_write_57 : decode cX9_write 57 = .ok (.land, 1) := by decide +kernel
theorem dX9_write_58 : decode cX9_write 58 = .ok (.l2i, 1) := by decide +kernel
theorem dX9_write_59 : decode cX9_write 59 = .ok (.iastore, 1) := by decide +kernel
theorem dX9_write_60 : decode cX9_write 60 = .ok (.aload_n 0, 1) := by decide +kernel
theorem dX9_write_61 : decode cX9_write 61 = .ok (.dup, 1) := by decide +kernel
theorem dX9_write_62 : decode cX9_write 62 = .ok (.getfield 105, 3) := by decide +kernel
theorem dX9_write_65 : decode cX9_write 65 = .ok (.iconst 1, 1) := by decide +kernel
theorem dX9_write_66 : decode cX9_write 66 = .ok (.iadd, 1) := by decide +kernel
theorem dX9_write_67 : decode cX9_write 67 = .ok (.putfield 105, 3) := by decide +kernel
theorem dX9_write_70 : decode cX9_write 70 = .ok (.iinc 4 (-1), 3) := by decide +kernel
theorem dX9_write_73 : decode cX9_write 73 = .ok (.goto (-39), 3) := by decide +kernel
theorem dX9_write_76 : decode cX9_write 76 = .ok (.aload_n 0, 1) := by decide +kernel
theorem dX9_write_77 : decode cX9_write 77 = .ok (.getfield 105, 3) := by decide +kernel
theorem dX9_write_80 : decode cX9_write 80 = .ok (.ireturn, 1) := by decide +kernel
theorem dX9_wipe_0 : decode cX9_wipe 0 = .ok (.aload_n 0, 1) := by decide +kernel
theorem dX9_wipe_1 : decode cX9_wipe 1 = .ok (.getfield 105, 3) := by decide +kernel
theorem dX9_wipe_4 : decode cX9_wipe 4 = .ok (.istore_n 1, 1) := by decide +kernel
theorem dX9_wipe_5 : decode cX9_wipe 5 = .ok (.aload_n 0, 1) := by decide +kernel
theorem dX9_wipe_6 : decode cX9_wipe 6 = .ok (.iconst 0, 1) := by decide +kernel
theorem dX9_wipe_7 : decode cX9_wipe 7 = .ok (.putfield 105, 3) := by decide +kernel
theorem dX9_wipe_10 : decode cX9_wipe 10 = .ok (.iload_n 1, 1) := by decide +kernel
theorem dX9_wipe_11 : decode cX9_wipe 11 = .ok (.ireturn, 1) := by decide +kernel
theorem dX9_byteAt_0 : decode cX9_byteAt 0 = .ok (.iload_n 1, 1) := by decide +kernel
theorem dX9_byteAt_1 : decode cX9_byteAt 1 = .ok (.aload_n 0, 1) := by decide +kernel
theorem dX9_byteAt_2 : decode cX9_byteAt 2 = .ok (.getfield 105, 3) := by decide +kernel
theorem dX9_byteAt_5 : decode cX9_byteAt 5 = .ok (.if_icmp .ge 12, 3) := by decide +kernel
theorem dX9_byteAt_8 : decode cX9_byteAt 8 = .ok (.aload_n 0, 1) := by decide +kernel
theorem dX9_byteAt_9 : decode cX9_byteAt 9 = .ok (.getfield 7, 3) := by decide +kernel
theorem dX9_byteAt_12 : decode cX9_byteAt 12 = .ok (.iload_n 1, 1) := by decide +kernel
theorem dX9_byteAt_13 : decode cX9_byteAt 13 = .ok (.iaload, 1) := by decide +kernel
theorem dX9_byteAt_14 : decode cX9_byteAt 14 = .ok (.goto 4, 3) := by decide +kernel
theorem dX9_byteAt_17 : decode cX9_byteAt 17 = .ok (.iconst 0, 1) := by decide +kernel
theorem dX9_byteAt_18 : decode cX9_byteAt 18 = .ok (.ireturn, 1) := by decide +kernel
set_option maxRecDepth 20000 in
theorem ggX9_figures_X9_byteAt : GoodIn wsX9_figures wsX9_byteAt := goodIn_r _ [10, 11, 12, 16, 17, 18, 19, 20, 21, 22, 23, 24, 25, 26, 27, 28, 29, 30, 31, 32, 33, 34, 35, 36, 37, 38, 39, 40, 41, 42, 43, 44, 45, 46, 47, 48] (by decide +kernel) (by decide +kernel)
set_option maxRecDepth 20000 in
theorem gX9_figures_X9_byteAt : GoodIn wsX9_figures (wsV RX9 114 RX9 yX9_byteAt wsX9_byteAt) := goodIn_app (goodIn_of _ (by decide +kernel)) ggX9_figures_X9_byteAt
set_option maxRecDepth 20000 in
theorem ggX9_figures_X9_in : GoodIn wsX9_figures wsX9_in := goodIn_r _ [15] (by decide +kernel) (by decide +kernel)
set_option maxRecDepth 20000 in
theorem gX9_figures_X9_in : GoodIn wsX9_figures (va_wsS RX9 101 yX9_in wsX9_in) := goodIn_app (goodIn_of _ (by decide +kernel)) ggX9_figures_X9_in
theorem dX9_figures_0 : decode cX9_figures 0 = .ok (.iconst 0, 1) := by decide +kernel
theorem dX9_figures_1 : decode cX9_figures 1 = .ok (.istore_n 2, 1) := by decide +kernel
theorem dX9_figures_2 : decode cX9_figures 2 = .ok (.iload_n 2, 1) := by decide +kernel
theorem dX9_figures_3 : decode cX9_figures 3 = .ok (.iload_n 1, 1) := by decide +kernel
theorem dX9_figures_4 : decode cX9_figures 4 = .ok (.if_icmp .ge 132, 3) := by decide +kernel
theorem dX9_figures_7 : decode cX9_figures 7 = .ok (.iconst 0, 1) := by decide +kernel
theorem dX9_figures_8 : decode cX9_figures 8 = .ok (.istore_n 3, 1) := by decide +kernel
theorem dX9_figures_9 : decode cX9_figures 9 = .ok (.iconst 0, 1) := by decide +kernel
theorem dX9_figures_10 : decode cX9_figures 10 = .ok (.istore 4, 2) := by decide +kernel
theorem dX9_figures_12 : decode cX9_figures 12 = .ok (.aload_n 0, 1) := by decide +kernel
theorem dX9_figures_13 : decode cX9_figures 13 = .ok (.aload_n 0, 1) := by decide +kernel
theorem dX9_figures_14 : decode cX9_figures 14 = .ok (.getfield 111, 3) := by decide +kernel
theorem dX9_figures_17 : decode cX9_figures 17 = .ok (.invokevirtual 114, 3) := by decide +kernel
theorem dX9_figures_20 : decode cX9_figures 20 = .ok (.i2l, 1) := by decide +kernel
theorem dX9_figures_21 : decode cX9_figures 21 = .ok (.ldc2_w 118, 3) := by decide +kernel
theorem dX9_figures_24 : decode cX9_figures 24 = .ok (.ldc2_w 120, 3) := by decide +kernel
theorem dX9_figures_27 : decode cX9_figures 27 = .ok (.invokestatic 101, 3) := by decide +kernel
theorem dX9_figures_30 : decode cX9_figures 30 = .ok (.ifCond .eq 43, 3) := by decide +kernel
theorem dX9_figures_33 : decode cX9_figures 33 = .ok (.iload_n 3, 1) := by decide +kernel
theorem dX9_figures_34 : decode cX9_figures 34 = .ok (.iconst 3, 1) := by decide +kernel
theorem dX9_figures_35 : decode cX9_figures 35 = .ok (.if_icmp .ge 38, 3) := by decide +kernel
theorem dX9_figures_38 : decode cX9_figures 38 = .ok (.bipush 10, 2) := by decide +kernel
theorem dX9_figures_40 : decode cX9_figures 40 = .ok (.iload 4, 2) := by decide +kernel
theorem dX9_figures_42 : decode cX9_figures 42 = .ok (.imul, 1) := by decide +kernel
theorem dX9_figures_43 : decode cX9_figures 43 = .ok (.aload_n 0, 1) := by decide +kernel
theorem dX9_figures_44 : decode cX9_figures 44 = .ok (.aload_n 0, 1) := by decide +kernel
theorem dX9_figures_45 : decode cX9_figures 45 = .ok (.getfield 111, 3) := by decide +kernel
theorem dX9_figures_48 : decode cX9_figures 48 = .ok (.invokevirtual 114, 3) := by decide +kernel
theorem dX9_figures_51 : decode cX9_figures 51 = .ok (.iadd, 1) := by decide +kernel
theorem dX9_figures_52 : decode cX9_figures 52 = .ok (.bipush 48, 2) := by decide +kernel
theorem dX9_figures_54 : decode cX9_figures 54 = .ok (.isub, 1) := by decide +kernel
theorem dX9_figures_55 : decode cX9_figures 55 = .ok (.istore 4, 2) := by decide +kernel
theorem dX9_figures_57 : decode cX9_figures 57 = .ok (.iinc 3 1, 3) := by decide +kernel
theorem dX9_figures_60 : decode cX9_figures 60 = .ok (.aload_n 0, 1) := by decide +kernel
theorem dX9_figures_61 : decode cX9_figures 61 = .ok (.dup, 1) := by decide +kernel
theorem dX9_figures_62 : decode cX9_figures 62 = .ok (.getfield 111, 3) := by decide +kernel
theorem dX9_figures_65 : decode cX9_figures 65 = .ok (.iconst 1, 1) := by decide +kernel
theorem dX9_figures_66 : decode cX9_figures 66 = .ok (.iadd, 1) := by decide +kernel
theorem dX9_figures_67 : decode cX9_figures 67 = .ok (.putfield 111, 3) := by decide +kernel
theorem dX9_figures_70 : decode cX9_figures 70 = .ok (.goto (-58), 3) := by decide +kernel
theorem dX9_figures_73 : decode cX9_figures 73 = .ok (.iload_n 3, 1) := by decide +kernel
theorem dX9_figures_74 : decode cX9_figures 74 = .ok (.i2l, 1) := by decide +kernel
theorem dX9_figures_75 : decode cX9_figures 75 = .ok (.lconst 1, 1) := by decide +kernel
theorem dX9_figures_76 : decode cX9_figures 76 = .ok (.ldc2_w 122, 3) := by decide +kernel
theorem dX9_figures_79 : decode cX9_figures 79 = .ok (.invokestatic 101, 3) := by decide +kernel
theorem dX9_figures_82 : decode cX9_figures 82 = .ok (.ifCond .eq 28, 3) := by decide +kernel
theorem dX9_figures_85 : decode cX9_figures 85 = .ok (.aload_n 0, 1) := by decide +kernel
theorem dX9_figures_86 : decode cX9_figures 86 = .ok (.aload_n 0, 1) := by decide +kernel
theorem dX9_figures_87 : decode cX9_figures 87 = .ok (.getfield 111, 3) := by decide +kernel
theorem dX9_figures_90 : decode cX9_figures 90 = .ok (.invokevirtual 114, 3) := by decide +kernel
theorem dX9_figures_93 : decode cX9_figures 93 = .ok (.iload_n 2, 1) := by decide +kernel
theorem dX9_figures_94 : decode cX9_figures 94 = .ok (.iload_n 1, 1) := by decide +kernel
theorem dX9_figures_95 : decode cX9_figures 95 = .ok (.iconst 1, 1) := by decide +kernel
theorem dX9_figures_96 : decode cX9_figures 96 = .ok (.isub, 1) := by decide +kernel
theorem dX9_figures_97 : decode cX9_figures 97 = .ok (.if_icmp .ge 8, 3) := by decide +kernel
theorem dX9_figures_100 : decode cX9_figures 100 = .ok (.bipush 44, 2) := by decide +kernel
theorem dX9_figures_102 : decode cX9_figures 102 = .ok (.goto 5, 3) := by decide +kernel
theorem dX9_figures_105 : decode cX9_figures 105 = .ok (.bipush 59, 2) := by decide +kernel
theorem dX9_figures_107 : decode cX9_figures 107 = .ok (.if_icmp .eq 5, 3) := by decide +kernel
theorem dX9_figures_110 : decode cX9_figures 110 = .ok (.iconst 0, 1) := by decide +kernel
theorem dX9_figures_111 : decode cX9_figures 111 = .ok (.ireturn, 1) := by decide +kernel
theorem dX9_figures_112 : decode cX9_figures 112 = .ok (.aload_n 0, 1) := by decide +kernel
theorem dX9_figures_113 : decode cX9_figures 113 = .ok (.getfield 67, 3) := by decide +kernel
theorem dX9_figures_116 : decode cX9_figures 116 = .ok (.iload_n 2, 1) := by decide +kernel
theorem dX9_figures_117 : decode cX9_figures 117 = .ok (.iload 4, 2) := by decide +kernel
theorem dX9_figures_119 : decode cX9_figures 119 = .ok (.iastore, 1) := by decide +kernel
theorem dX9_figures_120 : decode cX9_figures 120 = .ok (.aload_n 0, 1) := by decide +kernel
theorem dX9_figures_121 : decode cX9_figures 121 = .ok (.dup, 1) := by decide +kernel
theorem dX9_figures_122 : decode cX9_figures 122 = .ok (.getfield 111, 3) := by decide +kernel
theorem dX9_figures_125 : decode cX9_figures 125 = .ok (.iconst 1, 1) := by decide +kernel
theorem dX9_figures_126 : decode cX9_figures 126 = .ok (.iadd, 1) := by decide +kernel
theorem dX9_figures_127 : decode cX9_figures 127 = .ok (.putfield 111, 3) := by decide +kernel
theorem dX9_figures_130 : decode cX9_figures 130 = .ok (.iinc 2 1, 3) := by decide +kernel
theorem dX9_figures_133 : decode cX9_figures 133 = .ok (.goto (-131), 3) := by decide +kernel
theorem dX9_figures_136 : decode cX9_figures 136 = .ok (.iconst 1, 1) := by decide +kernel
theorem dX9_figures_137 : decode cX9_figures 137 = .ok (.ireturn, 1) := by decide +kernel
theorem dX9_addLook_0 : decode cX9_addLook 0 = .ok (.aload_n 0, 1) := by decide +kernel
theorem dX9_addLook_1 : decode cX9_addLook 1 = .ok (.getfield 43, 3) := by decide +kernel
theorem dX9_addLook_4 : decode cX9_addLook 4 = .ok (.bipush 9, 2) := by decide +kernel
theorem dX9_addLook_6 : decode cX9_addLook 6 = .ok (.iload_n 1, 1) := by decide +kernel
theorem dX9_addLook_7 : decode cX9_addLook 7 = .ok (.imul, 1) := by decide +kernel
theorem dX9_addLook_8 : decode cX9_addLook 8 = .ok (.aload_n 0, 1) := by decide +kernel
theorem dX9_addLook_9 : decode cX9_addLook 9 = .ok (.getfield 40, 3) := by decide +kernel
theorem dX9_addLook_12 : decode cX9_addLook 12 = .ok (.iload_n 1, 1) := by decide +kernel
theorem dX9_addLook_13 : decode cX9_addLook 13 = .ok (.iaload, 1) := by decide +kernel
theorem dX9_addLook_14 : decode cX9_addLook 14 = .ok (.iadd, 1) := by decide +kernel
theorem dX9_addLook_15 : decode cX9_addLook 15 = .ok (.iload_n 2, 1) := by decide +kernel
theorem dX9_addLook_16 : decode cX9_addLook 16 = .ok (.iastore, 1) := by decide +kernel
theorem dX9_addLook_17 : decode cX9_addLook 17 = .ok (.aload_n 0, 1) := by decide +kernel
theorem dX9_addLook_18 : decode cX9_addLook 18 = .ok (.getfield 46, 3) := by decide +kernel
theorem dX9_addLook_21 : decode cX9_addLook 21 = .ok (.bipush 9, 2) := by decide +kernel
theorem dX9_addLook_23 : decode cX9_addLook 23 = .ok (.iload_n 1, 1) := by decide +kernel
theorem dX9_addLook_24 : decode cX9_addLook 24 = .ok (.imul, 1) := by decide +kernel
theorem dX9_addLook_25 : decode cX9_addLook 25 = .ok (.aload_n 0, 1) := by decide +kernel
theorem dX9_addLook_26 : decode cX9_addLook 26 = .ok (.getfield 40, 3) := by decide +kernel
theorem dX9_addLook_29 : decode cX9_addLook 29 = .ok (.iload_n 1, 1) := by decide +kernel
theorem dX9_addLook_30 : decode cX9_addLook 30 = .ok (.iaload, 1) := by decide +kernel
theorem dX9_addLook_31 : decode cX9_addLook 31 = .ok (.iadd, 1) := by decide +kernel
theorem dX9_addLook_32 : decode cX9_addLook 32 = .ok (.iload_n 3, 1) := by decide +kernel
theorem dX9_addLook_33 : decode cX9_addLook 33 = .ok (.iastore, 1) := by decide +kernel
theorem dX9_addLook_34 : decode cX9_addLook 34 = .ok (.aload_n 0, 1) := by decide +kernel
theorem dX9_addLook_35 : decode cX9_addLook 35 = .ok (.getfield 49, 3) := by decide +kernel
theorem dX9_addLook_38 : decode cX9_addLook 38 = .ok (.bipush 9, 2) := by decide +kernel
theorem dX9_addLook_40 : decode cX9_addLook 40 = .ok (.iload_n 1, 1) := by decide +kernel
theorem dX9_addLook_41 : decode cX9_addLook 41 = .ok (.imul, 1) := by decide +kernel
theorem dX9_addLook_42 : decode cX9_addLook 42 = .ok (.aload_n 0, 1) := by decide +kernel
theorem dX9_addLook_43 : decode cX9_addLook 43 = .ok (.getfield 40, 3) := by decide +kernel
theorem dX9_addLook_46 : decode cX9_addLook 46 = .ok (.iload_n 1, 1) := by decide +kernel
theorem dX9_addLook_47 : decode cX9_addLook 47 = .ok (.iaload, 1) := by decide +kernel
theorem dX9_addLook_48 : decode cX9_addLook 48 = .ok (.iadd, 1) := by decide +kernel
theorem dX9_addLook_49 : decode cX9_addLook 49 = .ok (.iload 4, 2) := by decide +kernel
theorem dX9_addLook_51 : decode cX9_addLook 51 = .ok (.iastore, 1) := by decide +kernel
theorem dX9_addLook_52 : decode cX9_addLook 52 = .ok (.aload_n 0, 1) := by decide +kernel
theorem dX9_addLook_53 : decode cX9_addLook 53 = .ok (.getfield 40, 3) := by decide +kernel
theorem dX9_addLook_56 : decode cX9_addLook 56 = .ok (.iload_n 1, 1) := by decide +kernel
theorem dX9_addLook_57 : decode cX9_addLook 57 = .ok (.dup2, 1) := by decide +kernel
theorem dX9_addLook_58 : decode cX9_addLook 58 = .ok (.iaload, 1) := by decide +kernel
theorem dX9_addLook_59 : decode cX9_addLook 59 = .ok (.iconst 1, 1) := by decide +kernel
theorem dX9_addLook_60 : decode cX9_addLook 60 = .ok (.iadd, 1) := by decide +kernel
theorem dX9_addLook_61 : decode cX9_addLook 61 = .ok (.iastore, 1) := by decide +kernel
theorem dX9_addLook_62 : decode cX9_addLook 62 = .ok (.return_, 1) := by decide +kernel
set_option maxRecDepth 20000 in
theorem ggX9_item_X9_byteAt : GoodIn wsX9_item wsX9_byteAt := goodIn_r _ [20, 21, 22, 40, 41, 42, 43, 44, 45, 46, 47, 48, 49, 50, 51, 52, 53, 54, 55, 56, 57, 58, 59, 60, 61, 62, 63, 64, 65, 66, 67, 68, 69, 70, 71, 72] (by decide +kernel) (by decide +kernel)
set_option maxRecDepth 20000 in
theorem gX9_item_X9_byteAt : GoodIn wsX9_item (wsV RX9 114 RX9 yX9_byteAt wsX9_byteAt) := goodIn_app (goodIn_of _ (by decide +kernel)) ggX9_item_X9_byteAt
set_option maxRecDepth 20000 in
theorem ggX9_item_X9_figures : GoodIn wsX9_item wsX9_figures := goodIn_r _ [26, 1, 27, 28, 29, 3, 16, 17, 18, 19, 20, 21, 22, 30, 31, 32, 40, 41, 42, 43, 44, 45, 46, 47, 48, 49, 50, 51, 52, 53, 54, 55, 56, 57, 58, 59, 60, 61, 62, 63, 64, 65, 66, 67, 68, 69, 70, 71, 72] (by decide +kernel) (by decide +kernel)
set_option maxRecDepth 20000 in
theorem gX9_item_X9_figures : GoodIn wsX9_item (wsV RX9 124 RX9 yX9_figures wsX9_figures) := goodIn_app (goodIn_of _ (by decide +kernel)) ggX9_item_X9_figures
