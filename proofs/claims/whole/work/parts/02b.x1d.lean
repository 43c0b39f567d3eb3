set_option maxRecDepth 20000 in
theorem ggX1_init_X0_init : GoodIn wsX1_init wsX0_init := goodIn_r _ [18, 19, 2, 3, 10, 20, 21, 22, 23, 24, 25, 26, 27, 28, 29, 30, 31, 32, 33, 34, 35, 36, 37] (by decide +kernel) (by decide +kernel)
set_option maxRecDepth 20000 in
theorem gX1_init_X0_init : GoodIn wsX1_init (wsX0_init) := ggX1_init_X0_init
theorem dX1_init_0 : decode cX1_init 0 = .ok (.aload_n 0, 1) := by decide +kernel
theorem dX1_init_1 : decode cX1_init 1 = .ok (.invokespecial 1, 3) := by decide +kernel
theorem dX1_init_4 : decode cX1_init 4 = .ok (.aload_n 0, 1) := by decide +kernel
theorem dX1_init_5 : decode cX1_init 5 = .ok (.new 7, 3) := by decide +kernel
theorem dX1_init_8 : decode cX1_init 8 = .ok (.dup, 1) := by decide +kernel
theorem dX1_init_9 : decode cX1_init 9 = .ok (.invokespecial 9, 3) := by decide +kernel
theorem dX1_init_12 : decode cX1_init 12 = .ok (.putfield 10, 3) := by decide +kernel
theorem dX1_init_15 : decode cX1_init 15 = .ok (.aload_n 0, 1) := by decide +kernel
theorem dX1_init_16 : decode cX1_init 16 = .ok (.new 7, 3) := by decide +kernel
theorem dX1_init_19 : decode cX1_init 19 = .ok (.dup, 1) := by decide +kernel
theorem dX1_init_20 : decode cX1_init 20 = .ok (.invokespecial 9, 3) := by decide +kernel
theorem dX1_init_23 : decode cX1_init 23 = .ok (.putfield 16, 3) := by decide +kernel
theorem dX1_init_26 : decode cX1_init 26 = .ok (.aload_n 0, 1) := by decide +kernel
theorem dX1_init_27 : decode cX1_init 27 = .ok (.new 7, 3) := by decide +kernel
theorem dX1_init_30 : decode cX1_init 30 = .ok (.dup, 1) := by decide +kernel
theorem dX1_init_31 : decode cX1_init 31 = .ok (.invokespecial 9, 3) := by decide +kernel
theorem dX1_init_34 : decode cX1_init 34 = .ok (.putfield 19, 3) := by decide +kernel
theorem dX1_init_37 : decode cX1_init 37 = .ok (.aload_n 0, 1) := by decide +kernel
theorem dX1_init_38 : decode cX1_init 38 = .ok (.bipush 96, 2) := by decide +kernel
theorem dX1_init_40 : decode cX1_init 40 = .ok (.newarray .int, 2) := by decide +kernel
theorem dX1_init_42 : decode cX1_init 42 = .ok (.putfield 22, 3) := by decide +kernel
theorem dX1_init_45 : decode cX1_init 45 = .ok (.aload_n 0, 1) := by decide +kernel
theorem dX1_init_46 : decode cX1_init 46 = .ok (.bipush 16, 2) := by decide +kernel
theorem dX1_init_48 : decode cX1_init 48 = .ok (.newarray .int, 2) := by decide +kernel
theorem dX1_init_50 : decode cX1_init 50 = .ok (.putfield 26, 3) := by decide +kernel
theorem dX1_init_53 : decode cX1_init 53 = .ok (.aload_n 0, 1) := by decide +kernel
theorem dX1_init_54 : decode cX1_init 54 = .ok (.bipush 6, 2) := by decide +kernel
theorem dX1_init_56 : decode cX1_init 56 = .ok (.newarray .int, 2) := by decide +kernel
theorem dX1_init_58 : decode cX1_init 58 = .ok (.putfield 29, 3) := by decide +kernel
theorem dX1_init_61 : decode cX1_init 61 = .ok (.aload_n 0, 1) := by decide +kernel
theorem dX1_init_62 : decode cX1_init 62 = .ok (.bipush 30, 2) := by decide +kernel
theorem dX1_init_64 : decode cX1_init 64 = .ok (.newarray .int, 2) := by decide +kernel
theorem dX1_init_66 : decode cX1_init 66 = .ok (.putfield 32, 3) := by decide +kernel
theorem dX1_init_69 : decode cX1_init 69 = .ok (.aload_n 0, 1) := by decide +kernel
theorem dX1_init_70 : decode cX1_init 70 = .ok (.bipush 8, 2) := by decide +kernel
theorem dX1_init_72 : decode cX1_init 72 = .ok (.newarray .int, 2) := by decide +kernel
theorem dX1_init_74 : decode cX1_init 74 = .ok (.putfield 35, 3) := by decide +kernel
theorem dX1_init_77 : decode cX1_init 77 = .ok (.return_, 1) := by decide +kernel
set_option maxRecDepth 20000 in
theorem ggX1_letter_X1_refuse : GoodIn wsX1_letter wsX1_refuse := goodIn_r _ [7, 8, 9, 10, 11, 12, 13, 14, 15, 16, 17, 18, 19, 20] (by decide +kernel) (by decide +kernel)
set_option maxRecDepth 20000 in
theorem gX1_letter_X1_refuse : GoodIn wsX1_letter (wsV RX1 38 RX1 yX1_refuse wsX1_refuse) := goodIn_app (goodIn_of _ (by decide +kernel)) ggX1_letter_X1_refuse
theorem dX1_letter_0 : decode cX1_letter 0 = .ok (.iload_n 1, 1) := by decide +kernel
theorem dX1_letter_1 : decode cX1_letter 1 = .ok (.ifCond .ge 10, 3) := by decide +kernel
theorem dX1_letter_4 : decode cX1_letter 4 = .ok (.aload_n 0, 1) := by decide +kernel
theorem dX1_letter_5 : decode cX1_letter 5 = .ok (.bipush (-4), 2) := by decide +kernel
theorem dX1_letter_7 : decode cX1_letter 7 = .ok (.invokevirtual 38, 3) := by decide +kernel
theorem dX1_letter_10 : decode cX1_letter 10 = .ok (.ireturn, 1) := by decide +kernel
theorem dX1_letter_11 : decode cX1_letter 11 = .ok (.iload_n 1, 1) := by decide +kernel
theorem dX1_letter_12 : decode cX1_letter 12 = .ok (.sipush 255, 3) := by decide +kernel
theorem dX1_letter_15 : decode cX1_letter 15 = .ok (.if_icmp .gt 12, 3) := by decide +kernel
theorem dX1_letter_18 : decode cX1_letter 18 = .ok (.aload_n 0, 1) := by decide +kernel
theorem dX1_letter_19 : decode cX1_letter 19 = .ok (.getfield 42, 3) := by decide +kernel
theorem dX1_letter_22 : decode cX1_letter 22 = .ok (.bipush 96, 2) := by decide +kernel
theorem dX1_letter_24 : decode cX1_letter 24 = .ok (.if_icmp .lt 10, 3) := by decide +kernel
theorem dX1_letter_27 : decode cX1_letter 27 = .ok (.aload_n 0, 1) := by decide +kernel
theorem dX1_letter_28 : decode cX1_letter 28 = .ok (.bipush (-6), 2) := by decide +kernel
theorem dX1_letter_30 : decode cX1_letter 30 = .ok (.invokevirtual 38, 3) := by decide +kernel
theorem dX1_letter_33 : decode cX1_letter 33 = .ok (.ireturn, 1) := by decide +kernel
theorem dX1_letter_34 : decode cX1_letter 34 = .ok (.aload_n 0, 1) := by decide +kernel
theorem dX1_letter_35 : decode cX1_letter 35 = .ok (.getfield 42, 3) := by decide +kernel
theorem dX1_letter_38 : decode cX1_letter 38 = .ok (.ifCond .lt 25, 3) := by decide +kernel
theorem dX1_letter_41 : decode cX1_letter 41 = .ok (.aload_n 0, 1) := by decide +kernel
theorem dX1_letter_42 : decode cX1_letter 42 = .ok (.getfield 42, 3) := by decide +kernel
theorem dX1_letter_45 : decode cX1_letter 45 = .ok (.aload_n 0, 1) := by decide +kernel
theorem dX1_letter_46 : decode cX1_letter 46 = .ok (.getfield 22, 3) := by decide +kernel
theorem dX1_letter_49 : decode cX1_letter 49 = .ok (.arraylength, 1) := by decide +kernel
theorem dX1_letter_50 : decode cX1_letter 50 = .ok (.if_icmp .ge 13, 3) := by decide +kernel
theorem dX1_letter_53 : decode cX1_letter 53 = .ok (.aload_n 0, 1) := by decide +kernel
theorem dX1_letter_54 : decode cX1_letter 54 = .ok (.getfield 22, 3) := by decide +kernel
theorem dX1_letter_57 : decode cX1_letter 57 = .ok (.aload_n 0, 1) := by decide +kernel
theorem dX1_letter_58 : decode cX1_letter 58 = .ok (.getfield 42, 3) := by decide +kernel
theorem dX1_letter_61 : decode cX1_letter 61 = .ok (.iload_n 1, 1) := by decide +kernel
theorem dX1_letter_62 : decode cX1_letter 62 = .ok (.iastore, 1) := by decide +kernel
theorem dX1_letter_63 : decode cX1_letter 63 = .ok (.aload_n 0, 1) := by decide +kernel
theorem dX1_letter_64 : decode cX1_letter 64 = .ok (.dup, 1) := by decide +kernel
theorem dX1_letter_65 : decode cX1_letter 65 = .ok (.getfield 42, 3) := by decide +kernel
theorem dX1_letter_68 : decode cX1_letter 68 = .ok (.iconst 1, 1) := by decide +kernel
theorem dX1_letter_69 : decode cX1_letter 69 = .ok (.iadd, 1) := by decide +kernel
theorem dX1_letter_70 : decode cX1_letter 70 = .ok (.putfield 42, 3) := by decide +kernel
theorem dX1_letter_73 : decode cX1_letter 73 = .ok (.aload_n 0, 1) := by decide +kernel
theorem dX1_letter_74 : decode cX1_letter 74 = .ok (.getfield 42, 3) := by decide +kernel
theorem dX1_letter_77 : decode cX1_letter 77 = .ok (.ireturn, 1) := by decide +kernel
set_option maxRecDepth 20000 in
theorem ggX1_wall_X1_placeAmiss : GoodIn wsX1_wall wsX1_placeAmiss := goodIn_r _ [6, 1, 7, 8, 9, 5, 10, 11, 12, 13, 14, 15, 16, 17, 18, 19, 20, 21, 22, 23, 24, 25, 26, 27, 28, 29, 30, 31, 32, 33, 34, 35, 36, 37, 38, 39, 40, 41, 42, 43, 44, 45, 46, 47, 48, 49, 50, 51, 52, 53, 54, 55, 56, 57, 58, 59, 60, 61, 62, 63, 64, 65, 66, 67, 68, 69, 70, 71, 72, 73, 74, 75, 76, 77, 78, 79, 80, 81, 82, 83, 84, 85, 86, 87, 88, 89, 90, 91, 92, 93, 94, 95, 96, 97, 98, 99, 100, 101, 102, 103, 104, 105, 106, 107, 108, 109, 110, 111, 112, 113, 114, 115, 116, 117, 118, 119, 120, 121, 122, 123, 124, 125, 126, 127, 128, 129, 130, 131, 132, 133, 134, 254, 255, 256, 257, 258, 259, 260, 261, 262, 263, 264, 265] (by decide +kernel) (by decide +kernel)
set_option maxRecDepth 20000 in
theorem gX1_wall_X1_placeAmiss : GoodIn wsX1_wall (wsV RX1 46 RX1 yX1_placeAmiss wsX1_placeAmiss) := goodIn_app (goodIn_of _ (by decide +kernel)) ggX1_wall_X1_placeAmiss
set_option maxRecDepth 20000 in
theorem ggX1_wall_X1_tellAll : GoodIn wsX1_wall wsX1_tellAll := goodIn_r _ [138, 139, 140, 1, 141, 142, 143, 144, 145, 146, 147, 148, 149, 150, 151, 152, 153, 154, 155, 156, 157, 158, 159, 160, 5, 161, 7, 8, 9, 10, 11, 162, 163, 164, 165, 166, 167, 168, 169, 71, 72, 73, 74, 75, 76, 18, 77, 78, 79, 80, 81, 20, 35, 36, 37, 38, 29, 30, 82, 22, 23, 24, 25, 26, 27, 28, 83, 84, 41, 85, 86, 87, 88, 89, 90, 91, 92, 93, 94, 95, 96, 97, 98, 99, 100, 53, 101, 102, 103, 104, 105, 106, 107, 108, 109, 110, 58, 59, 60, 111, 112, 113, 46, 114, 115, 49, 116, 117, 118, 119, 62, 63, 64, 65, 66, 67, 120, 121, 122, 123, 124, 125, 126, 127, 128, 129, 130, 131, 132, 133, 134, 170, 171, 172, 173, 174, 175, 176, 177, 178, 179, 180, 181, 182, 183, 184, 185, 186, 187, 188, 189, 190, 191, 192, 193, 194, 195, 196, 197, 198, 199, 200, 201, 202, 203, 204, 205, 206, 207, 208, 209, 210, 211, 212, 213, 214, 215, 216, 217, 218, 219, 220, 221, 222, 223, 224, 225, 226, 227, 228, 229, 230, 231, 232, 233, 234, 235, 236, 237, 238, 239, 240, 241, 242, 243, 244, 245, 246, 247, 248, 249, 250, 251, 252, 253, 12, 13, 14, 21, 254, 255, 256, 257, 258, 259, 260, 261, 262, 263, 264, 265, 266, 267, 268, 269, 270, 271, 272, 273] (by decide +kernel) (by decide +kernel)
set_option maxRecDepth 20000 in
theorem gX1_wall_X1_tellAll : GoodIn wsX1_wall (wsV RX1 50 RX1 yX1_tellAll wsX1_tellAll) := goodIn_app (goodIn_of _ (by decide +kernel)) ggX1_wall_X1_tellAll
theorem dX1_wall_0 : decode cX1_wall 0 = .ok (.aload_n 0, 1) := by decide +kernel
theorem dX1_wall_1 : decode cX1_wall 1 = .ok (.invokevirtual 46, 3) := by decide +kernel
theorem dX1_wall_4 : decode cX1_wall 4 = .ok (.istore_n 1, 1) := by decide +kernel
theorem dX1_wall_5 : decode cX1_wall 5 = .ok (.iload_n 1, 1) := by decide +kernel
theorem dX1_wall_6 : decode cX1_wall 6 = .ok (.ifCond .lt 11, 3) := by decide +kernel
theorem dX1_wall_9 : decode cX1_wall 9 = .ok (.sipush (-1000), 3) := by decide +kernel
theorem dX1_wall_12 : decode cX1_wall 12 = .ok (.iload_n 1, 1) := by decide +kernel
theorem dX1_wall_13 : decode cX1_wall 13 = .ok (.isub, 1) := by decide +kernel
theorem dX1_wall_14 : decode cX1_wall 14 = .ok (.goto 7, 3) := by decide +kernel
theorem dX1_wall_17 : decode cX1_wall 17 = .ok (.aload_n 0, 1) := by decide +kernel
theorem dX1_wall_18 : decode cX1_wall 18 = .ok (.invokevirtual 50, 3) := by decide +kernel
theorem dX1_wall_21 : decode cX1_wall 21 = .ok (.istore_n 2, 1) := by decide +kernel
theorem dX1_wall_22 : decode cX1_wall 22 = .ok (.aload_n 0, 1) := by decide +kernel
theorem dX1_wall_23 : decode cX1_wall 23 = .ok (.iconst 0, 1) := by decide +kernel
theorem dX1_wall_24 : decode cX1_wall 24 = .ok (.putfield 42, 3) := by decide +kernel
theorem dX1_wall_27 : decode cX1_wall 27 = .ok (.iload_n 2, 1) := by decide +kernel
theorem dX1_wall_28 : decode cX1_wall 28 = .ok (.ireturn, 1) := by decide +kernel
set_option maxRecDepth 20000 in
theorem ggX1_node_X1_isNode : GoodIn wsX1_node wsX1_isNode := goodIn_r _ [5] (by decide +kernel) (by decide +kernel)
set_option maxRecDepth 20000 in
theorem gX1_node_X1_isNode : GoodIn wsX1_node (va_wsS RX1 53 yX1_isNode wsX1_isNode) := goodIn_app (goodIn_of _ (by decide +kernel)) ggX1_node_X1_isNode
set_option maxRecDepth 20000 in
theorem ggX1_node_X1_refuse : GoodIn wsX1_node wsX1_refuse := goodIn_r _ [9, 10, 27, 28, 29, 30, 31, 32, 33, 34, 35, 36, 37, 38] (by decide +kernel) (by decide +kernel)
set_option maxRecDepth 20000 in
theorem gX1_node_X1_refuse : GoodIn wsX1_node (wsV RX1 38 RX1 yX1_refuse wsX1_refuse) := goodIn_app (goodIn_of _ (by decide +kernel)) ggX1_node_X1_refuse
set_option maxRecDepth 20000 in
theorem ggX1_node_X0_kindOf : GoodIn wsX1_node wsX0_kindOf := goodIn_r _ [15, 16, 3, 4, 5, 39, 40, 41, 42, 43, 44, 45, 46] (by decide +kernel) (by decide +kernel)
set_option maxRecDepth 20000 in
theorem gX1_node_X0_kindOf : GoodIn wsX1_node (wsV RX1 57 RX0 yX0_kindOf wsX0_kindOf) := goodIn_app (goodIn_of _ (by decide +kernel)) ggX1_node_X0_kindOf
set_option maxRecDepth 20000 in
theorem ggX1_node_X0_figureOf : GoodIn wsX1_node wsX0_figureOf := goodIn_r _ [20, 21, 3, 4, 5, 39, 40, 41, 42, 43, 44, 45, 46] (by decide +kernel) (by decide +kernel)
set_option maxRecDepth 20000 in
theorem gX1_node_X0_figureOf : GoodIn wsX1_node (wsV RX1 60 RX0 yX0_figureOf wsX0_figureOf) := goodIn_app (goodIn_of _ (by decide +kernel)) ggX1_node_X0_figureOf
set_option maxRecDepth 20000 in
theorem ggX1_node_X0_wetOf : GoodIn wsX1_node wsX0_wetOf := goodIn_r _ [25, 26, 3, 4, 5, 39, 40, 41, 42, 43, 44, 45, 46] (by decide +kernel) (by decide +kernel)
set_option maxRecDepth 20000 in
theorem gX1_node_X0_wetOf : GoodIn wsX1_node (wsV RX1 63 RX0 yX0_wetOf wsX0_wetOf) := goodIn_app (goodIn_of _ (by decide +kernel)) ggX1_node_X0_wetOf
theorem dX1_node_0 : decode cX1_node 0 = .ok (.iload_n 1, 1) := by decide +kernel
theorem dX1_node_1 : decode cX1_node 1 = .ok (.invokestatic 53, 3) := by decide +kernel
theorem dX1_node_4 : decode cX1_node 4 = .ok (.ifCond .ne 9, 3) := by decide +kernel
theorem dX1_node_7 : decode cX1_node 7 = .ok (.aload_n 0, 1) := by decide +kernel
theorem dX1_node_8 : decode cX1_node 8 = .ok (.iconst (-1), 1) := by decide +kernel
theorem dX1_node_9 : decode cX1_node 9 = .ok (.invokevirtual 38, 3) := by decide +kernel
theorem dX1_node_12 : decode cX1_node 12 = .ok (.ireturn, 1) := by decide +kernel
theorem dX1_node_13 : decode cX1_node 13 = .ok (.iload_n 2, 1) := by decide +kernel
theorem dX1_node_14 : decode cX1_node 14 = .ok (.ifCond .ne 12, 3) := by decide +kernel
theorem dX1_node_17 : decode cX1_node 17 = .ok (.aload_n 0, 1) := by decide +kernel
theorem dX1_node_18 : decode cX1_node 18 = .ok (.getfield 10, 3) := by decide +kernel
theorem dX1_node_21 : decode cX1_node 21 = .ok (.iload_n 1, 1) := by decide +kernel
theorem dX1_node_22 : decode cX1_node 22 = .ok (.invokevirtual 57, 3) := by decide +kernel
theorem dX1_node_25 : decode cX1_node 25 = .ok (.ireturn, 1) := by decide +kernel
theorem dX1_node_26 : decode cX1_node 26 = .ok (.iload_n 2, 1) := by decide +kernel
theorem dX1_node_27 : decode cX1_node 27 = .ok (.iconst 1, 1) := by decide +kernel
theorem dX1_node_28 : decode cX1_node 28 = .ok (.if_icmp .ne 12, 3) := by decide +kernel
theorem dX1_node_31 : decode cX1_node 31 = .ok (.aload_n 0, 1) := by decide +kernel
theorem dX1_node_32 : decode cX1_node 32 = .ok (.getfield 10, 3) := by decide +kernel
theorem dX1_node_35 : decode cX1_node 35 = .ok (.iload_n 1, 1) := by decide +kernel
theorem dX1_node_36 : decode cX1_node 36 = .ok (.invokevirtual 60, 3) := by decide +kernel
theorem dX1_node_39 : decode cX1_node 39 = .ok (.ireturn, 1) := by decide +kernel
theorem dX1_node_40 : decode cX1_node 40 = .ok (.iload_n 2, 1) := by decide +kernel
theorem dX1_node_41 : decode cX1_node 41 = .ok (.iconst 2, 1) := by decide +kernel
theorem dX1_node_42 : decode cX1_node 42 = .ok (.if_icmp .ne 12, 3) := by decide +kernel
theorem dX1_node_45 : decode cX1_node 45 = .ok (.aload_n 0, 1) := by decide +kernel
theorem dX1_node_46 : decode cX1_node 46 = .ok (.getfield 10, 3) := by decide +kernel
theorem dX1_node_49 : decode cX1_node 49 = .ok (.iload_n 1, 1) := by decide +kernel
theorem dX1_node_50 : decode cX1_node 50 = .ok (.invokevirtual 63, 3) := by decide +kernel
theorem dX1_node_53 : decode cX1_node 53 = .ok (.ireturn, 1) := by decide +kernel
theorem dX1_node_54 : decode cX1_node 54 = .ok (.aload_n 0, 1) := by decide +kernel
theorem dX1_node_55 : decode cX1_node 55 = .ok (.bipush (-2), 2) := by decide +kernel
theorem dX1_node_57 : decode cX1_node 57 = .ok (.invokevirtual 38, 3) := by decide +kernel
theorem dX1_node_60 : decode cX1_node 60 = .ok (.ireturn, 1) := by decide +kernel
set_option maxRecDepth 20000 in
theorem ggX1_person_X0_has : GoodIn wsX1_person wsX0_has := goodIn_r _ [6, 7, 71, 72, 73, 74, 75, 76, 77, 78] (by decide +kernel) (by decide +kernel)
set_option maxRecDepth 20000 in
theorem gX1_person_X0_has : GoodIn wsX1_person (wsV RX1 66 RX0 yX0_has wsX0_has) := goodIn_app (goodIn_of _ (by decide +kernel)) ggX1_person_X0_has
set_option maxRecDepth 20000 in
theorem ggX1_person_X1_refuse : GoodIn wsX1_person wsX1_refuse := goodIn_r _ [12, 13, 59, 60, 61, 62, 63, 64, 65, 66, 67, 68, 69, 70] (by decide +kernel) (by decide +kernel)
set_option maxRecDepth 20000 in
theorem gX1_person_X1_refuse : GoodIn wsX1_person (wsV RX1 38 RX1 yX1_refuse wsX1_refuse) := goodIn_app (goodIn_of _ (by decide +kernel)) ggX1_person_X1_refuse
set_option maxRecDepth 20000 in
theorem ggX1_person_X0_wayNext : GoodIn wsX1_person wsX0_wayNext := goodIn_r _ [17, 18, 19, 20, 21, 5, 22, 23, 24, 3, 4, 6, 7, 25, 26, 27, 28, 29, 30, 11, 31, 32, 33, 34, 35, 36, 37, 38, 39, 40, 41, 42, 43, 44, 45, 46, 47, 48, 49, 71, 72, 73, 74, 75, 76, 77, 78] (by decide +kernel) (by decide +kernel)
set_option maxRecDepth 20000 in
theorem gX1_person_X0_wayNext : GoodIn wsX1_person (wsV RX1 69 RX0 yX0_wayNext wsX0_wayNext) := goodIn_app (goodIn_of _ (by decide +kernel)) ggX1_person_X0_wayNext
set_option maxRecDepth 20000 in
theorem ggX1_person_X0_ofPerson : GoodIn wsX1_person wsX0_ofPerson := goodIn_r _ [53, 19, 20, 21, 5, 22, 23, 24, 3, 4, 6, 7, 42, 43, 44, 45, 46, 54, 55, 56, 57, 58, 71, 72, 73, 74, 75, 76, 77, 78] (by decide +kernel) (by decide +kernel)
set_option maxRecDepth 20000 in
theorem gX1_person_X0_ofPerson : GoodIn wsX1_person (wsV RX1 72 RX0 yX0_ofPerson wsX0_ofPerson) := goodIn_app (goodIn_of _ (by decide +kernel)) ggX1_person_X0_ofPerson
theorem dX1_person_0 : decode cX1_person 0 = .ok (.aload_n 0, 1) := by decide +kernel
theorem dX1_person_1 : decode cX1_person 1 = .ok (.getfield 10, 3) := by decide +kernel
theorem dX1_person_4 : decode cX1_person 4 = .ok (.iload_n 1, 1) := by decide +kernel
theorem dX1_person_5 : decode cX1_person 5 = .ok (.invokevirtual 66, 3) := by decide +kernel
theorem dX1_person_8 : decode cX1_person 8 = .ok (.ifCond .ne 9, 3) := by decide +kernel
theorem dX1_person_11 : decode cX1_person 11 = .ok (.aload_n 0, 1) := by decide +kernel
theorem dX1_person_12 : decode cX1_person 12 = .ok (.iconst (-1), 1) := by decide +kernel
theorem dX1_person_13 : decode cX1_person 13 = .ok (.invokevirtual 38, 3) := by decide +kernel
theorem dX1_person_16 : decode cX1_person 16 = .ok (.ireturn, 1) := by decide +kernel
theorem dX1_person_17 : decode cX1_person 17 = .ok (.iload_n 2, 1) := by decide +kernel
theorem dX1_person_18 : decode cX1_person 18 = .ok (.ifCond .lt 8, 3) := by decide +kernel
theorem dX1_person_21 : decode cX1_person 21 = .ok (.iload_n 2, 1) := by decide +kernel
theorem dX1_person_22 : decode cX1_person 22 = .ok (.iconst 3, 1) := by decide +kernel
theorem dX1_person_23 : decode cX1_person 23 = .ok (.if_icmp .le 10, 3) := by decide +kernel
theorem dX1_person_26 : decode cX1_person 26 = .ok (.aload_n 0, 1) := by decide +kernel
theorem dX1_person_27 : decode cX1_person 27 = .ok (.bipush (-2), 2) := by decide +kernel
theorem dX1_person_29 : decode cX1_person 29 = .ok (.invokevirtual 38, 3) := by decide +kernel
theorem dX1_person_32 : decode cX1_person 32 = .ok (.ireturn, 1) := by decide +kernel
theorem dX1_person_33 : decode cX1_person 33 = .ok (.iload_n 2, 1) := by decide +kernel
theorem dX1_person_34 : decode cX1_person 34 = .ok (.iconst 3, 1) := by decide +kernel
theorem dX1_person_35 : decode cX1_person 35 = .ok (.if_icmp .ne 14, 3) := by decide +kernel
theorem dX1_person_38 : decode cX1_person 38 = .ok (.aload_n 0, 1) := by decide +kernel
theorem dX1_person_39 : decode cX1_person 39 = .ok (.getfield 10, 3) := by decide +kernel
theorem dX1_person_42 : decode cX1_person 42 = .ok (.iload_n 1, 1) := by decide +kernel
theorem dX1_person_43 : decode cX1_person 43 = .ok (.invokevirtual 69, 3) := by decide +kernel
theorem dX1_person_46 : decode cX1_person 46 = .ok (.goto 12, 3) := by decide +kernel
theorem dX1_person_49 : decode cX1_person 49 = .ok (.aload_n 0, 1) := by decide +kernel
theorem dX1_person_50 : decode cX1_person 50 = .ok (.getfield 10, 3) := by decide +kernel
theorem dX1_person_53 : decode cX1_person 53 = .ok (.iload_n 1, 1) := by decide +kernel
theorem dX1_person_54 : decode cX1_person 54 = .ok (.iload_n 2, 1) := by decide +kernel
theorem dX1_person_55 : decode cX1_person 55 = .ok (.invokevirtual 72, 3) := by decide +kernel
theorem dX1_person_58 : decode cX1_person 58 = .ok (.ireturn, 1) := by decide +kernel
set_option maxRecDepth 20000 in
theorem ggX1_lays_X1_isNode : GoodIn wsX1_lays wsX1_isNode := goodIn_r _ [5] (by decide +kernel) (by decide +kernel)
set_option maxRecDepth 20000 in
theorem gX1_lays_X1_isNode : GoodIn wsX1_lays (va_wsS RX1 53 yX1_isNode wsX1_isNode) := goodIn_app (goodIn_of _ (by decide +kernel)) ggX1_lays_X1_isNode
set_option maxRecDepth 20000 in
theorem ggX1_lays_X1_refuse : GoodIn wsX1_lays wsX1_refuse := goodIn_r _ [9, 10, 36, 37, 38, 39, 40, 41, 42, 43, 44, 45, 46, 47] (by decide +kernel) (by decide +kernel)
set_option maxRecDepth 20000 in
theorem gX1_lays_X1_refuse : GoodIn wsX1_lays (wsV RX1 38 RX1 yX1_refuse wsX1_refuse) := goodIn_app (goodIn_of _ (by decide +kernel)) ggX1_lays_X1_refuse
set_option maxRecDepth 20000 in
theorem ggX1_lays_X1_isKind : GoodIn wsX1_lays wsX1_isKind := goodIn_r _ [13] (by decide +kernel) (by decide +kernel)
set_option maxRecDepth 20000 in
theorem gX1_lays_X1_isKind : GoodIn wsX1_lays (va_wsS RX1 76 yX1_isKind wsX1_isKind) := goodIn_app (goodIn_of _ (by decide +kernel)) ggX1_lays_X1_isKind
set_option maxRecDepth 20000 in
theorem ggX1_lays_X1_outside : GoodIn wsX1_lays wsX1_outside := goodIn_r _ [16] (by decide +kernel) (by decide +kernel)
set_option maxRecDepth 20000 in
theorem gX1_lays_X1_outside : GoodIn wsX1_lays (va_wsS RX1 79 yX1_outside wsX1_outside) := goodIn_app (goodIn_of _ (by decide +kernel)) ggX1_lays_X1_outside
set_option maxRecDepth 20000 in
theorem ggX1_lays_X0_kindOf : GoodIn wsX1_lays wsX0_kindOf := goodIn_r _ [21, 22, 3, 4, 5, 48, 49, 50, 51, 52, 53, 54, 55] (by decide +kernel) (by decide +kernel)
set_option maxRecDepth 20000 in
theorem gX1_lays_X0_kindOf : GoodIn wsX1_lays (wsV RX1 57 RX0 yX0_kindOf wsX0_kindOf) := goodIn_app (goodIn_of _ (by decide +kernel)) ggX1_lays_X0_kindOf
set_option maxRecDepth 20000 in
theorem ggX1_lays_X0_figureOf : GoodIn wsX1_lays wsX0_figureOf := goodIn_r _ [26, 27, 3, 4, 5, 48, 49, 50, 51, 52, 53, 54, 55] (by decide +kernel) (by decide +kernel)
set_option maxRecDepth 20000 in
theorem gX1_lays_X0_figureOf : GoodIn wsX1_lays (wsV RX1 60 RX0 yX0_figureOf wsX0_figureOf) := goodIn_app (goodIn_of _ (by decide +kernel)) ggX1_lays_X0_figureOf
set_option maxRecDepth 20000 in
theorem ggX1_lays_X0_putKind : GoodIn wsX1_lays wsX0_putKind := goodIn_r _ [31, 22, 3, 4, 5, 48, 49, 50, 51, 52, 53, 54, 55] (by decide +kernel) (by decide +kernel)
set_option maxRecDepth 20000 in
theorem gX1_lays_X0_putKind : GoodIn wsX1_lays (wsV RX1 83 RX0 yX0_putKind wsX0_putKind) := goodIn_app (goodIn_of _ (by decide +kernel)) ggX1_lays_X0_putKind
set_option maxRecDepth 20000 in
theorem ggX1_lays_X0_putFigure : GoodIn wsX1_lays wsX0_putFigure := goodIn_r _ [35, 27, 3, 4, 5, 48, 49, 50, 51, 52, 53, 54, 55] (by decide +kernel) (by decide +kernel)
set_option maxRecDepth 20000 in
theorem gX1_lays_X0_putFigure : GoodIn wsX1_lays (wsV RX1 87 RX0 yX0_putFigure wsX0_putFigure) := goodIn_app (goodIn_of _ (by decide +kernel)) ggX1_lays_X0_putFigure
theorem dX1_lays_0 : decode cX1_lays 0 = .ok (.iload_n 1, 1) := by decide +kernel
theorem dX1_lays_1 : decode cX1_lays 1 = .ok (.invokestatic 53, 3) := by decide +kernel
theorem dX1_lays_4 : decode cX1_lays 4 = .ok (.ifCond .ne 9, 3) := by decide +kernel
theorem dX1_lays_7 : decode cX1_lays 7 = .ok (.aload_n 0, 1) := by decide +kernel
theorem dX1_lays_8 : decode cX1_lays 8 = .ok (.iconst (-1), 1) := by decide +kernel
theorem dX1_lays_9 : decode cX1_lays 9 = .ok (.invokevirtual 38, 3) := by decide +kernel
theorem dX1_lays_12 : decode cX1_lays 12 = .ok (.ireturn, 1) := by decide +kernel
theorem dX1_lays_13 : decode cX1_lays 13 = .ok (.iload_n 2, 1) := by decide +kernel
theorem dX1_lays_14 : decode cX1_lays 14 = .ok (.invokestatic 76, 3) := by decide +kernel
theorem dX1_lays_17 : decode cX1_lays 17 = .ok (.ifCond .ne 10, 3) := by decide +kernel
theorem dX1_lays_20 : decode cX1_lays 20 = .ok (.aload_n 0, 1) := by decide +kernel
theorem dX1_lays_21 : decode cX1_lays 21 = .ok (.bipush (-2), 2) := by decide +kernel
theorem dX1_lays_23 : decode cX1_lays 23 = .ok (.invokevirtual 38, 3) := by decide +kernel
theorem dX1_lays_26 : decode cX1_lays 26 = .ok (.ireturn, 1) := by decide +kernel
theorem dX1_lays_27 : decode cX1_lays 27 = .ok (.iload_n 3, 1) := by decide +kernel
theorem dX1_lays_28 : decode cX1_lays 28 = .ok (.iconst 0, 1) := by decide +kernel
theorem dX1_lays_29 : decode cX1_lays 29 = .ok (.bipush 9, 2) := by decide +kernel
theorem dX1_lays_31 : decode cX1_lays 31 = .ok (.invokestatic 79, 3) := by decide +kernel
theorem dX1_lays_34 : decode cX1_lays 34 = .ok (.istore 4, 2) := by decide +kernel
theorem dX1_lays_36 : decode cX1_lays 36 = .ok (.iload 4, 2) := by decide +kernel
theorem dX1_lays_38 : decode cX1_lays 38 = .ok (.ifCond .eq 10, 3) := by decide +kernel
theorem dX1_lays_41 : decode cX1_lays 41 = .ok (.aload_n 0, 1) := by decide +kernel
theorem dX1_lays_42 : decode cX1_lays 42 = .ok (.iload 4, 2) := by decide +kernel
theorem dX1_lays_44 : decode cX1_lays 44 = .ok (.invokevirtual 38, 3) := by decide +kernel
theorem dX1_lays_47 : decode cX1_lays 47 = .ok (.ireturn, 1) := by decide +kernel
theorem dX1_lays_48 : decode cX1_lays 48 = .ok (.bipush 10, 2) := by decide +kernel
theorem dX1_lays_50 : decode cX1_lays 50 = .ok (.aload_n 0, 1) := by decide +kernel
theorem dX1_lays_51 : decode cX1_lays 51 = .ok (.getfield 10, 3) := by decide +kernel
theorem dX1_lays_54 : decode cX1_lays 54 = .ok (.iload_n 1, 1) := by decide +kernel
theorem dX1_lays_55 : decode cX1_lays 55 = .ok (.invokevirtual 57, 3) := by decide +kernel
theorem dX1_lays_58 : decode cX1_lays 58 = .ok (.imul, 1) := by decide +kernel
theorem dX1_lays_59 : decode cX1_lays 59 = .ok (.aload_n 0, 1) := by decide +kernel
theorem dX1_lays_60 : decode cX1_lays 60 = .ok (.getfield 10, 3) := by decide +kernel
theorem dX1_lays_63 : decode cX1_lays 63 = .ok (.iload_n 1, 1) := by decide +kernel
theorem dX1_lays_64 : decode cX1_lays 64 = .ok (.invokevirtual 60, 3) := by decide +kernel
theorem dX1_lays_67 : decode cX1_lays 67 = .ok (.iadd, 1) := by decide +kernel
theorem dX1_lays_68 : decode cX1_lays 68 = .ok (.istore 5, 2) := by decide +kernel
theorem dX1_lays_70 : decode cX1_lays 70 = .ok (.aload_n 0, 1) := by decide +kernel
theorem dX1_lays_71 : decode cX1_lays 71 = .ok (.getfield 10, 3) := by decide +kernel
theorem dX1_lays_74 : decode cX1_lays 74 = .ok (.iload_n 1, 1) := by decide +kernel
theorem dX1_lays_75 : decode cX1_lays 75 = .ok (.iload_n 2, 1) := by decide +kernel
theorem dX1_lays_76 : decode cX1_lays 76 = .ok (.invokevirtual 83, 3) := by decide +kernel
theorem dX1_lays_79 : decode cX1_lays 79 = .ok (.aload_n 0, 1) := by decide +kernel
theorem dX1_lays_80 : decode cX1_lays 80 = .ok (.getfield 10, 3) := by decide +kernel
theorem dX1_lays_83 : decode cX1_lays 83 = .ok (.iload_n 1, 1) := by decide +kernel
theorem dX1_lays_84 : decode cX1_lays 84 = .ok (.iload_n 3, 1) := by decide +kernel
theorem dX1_lays_85 : decode cX1_lays 85 = .ok (.invokevirtual 87, 3) := by decide +kernel
theorem dX1_lays_88 : decode cX1_lays 88 = .ok (.iload 5, 2) := by decide +kernel
theorem dX1_lays_90 : decode cX1_lays 90 = .ok (.ireturn, 1) := by decide +kernel
set_option maxRecDepth 20000 in
theorem ggX1_wets_X1_isNode : GoodIn wsX1_wets wsX1_isNode := goodIn_r _ [5] (by decide +kernel) (by decide +kernel)
set_option maxRecDepth 20000 in
theorem gX1_wets_X1_isNode : GoodIn wsX1_wets (va_wsS RX1 53 yX1_isNode wsX1_isNode) := goodIn_app (goodIn_of _ (by decide +kernel)) ggX1_wets_X1_isNode
set_option maxRecDepth 20000 in
theorem ggX1_wets_X1_refuse : GoodIn wsX1_wets wsX1_refuse := goodIn_r _ [9, 10, 24, 25, 26, 27, 28, 29, 30, 31, 32, 33, 34, 35] (by decide +kernel) (by decide +kernel)
set_option maxRecDepth 20000 in
theorem gX1_wets_X1_refuse : GoodIn wsX1_wets (wsV RX1 38 RX1 yX1_refuse wsX1_refuse) := goodIn_app (goodIn_of _ (by decide +kernel)) ggX1_wets_X1_refuse
set_option maxRecDepth 20000 in
theorem ggX1_wets_X1_outside : GoodIn wsX1_wets wsX1_outside := goodIn_r _ [13] (by decide +kernel) (by decide +kernel)
set_option maxRecDepth 20000 in
theorem gX1_wets_X1_outside : GoodIn wsX1_wets (va_wsS RX1 79 yX1_outside wsX1_outside) := goodIn_app (goodIn_of _ (by decide +kernel)) ggX1_wets_X1_outside
set_option maxRecDepth 20000 in
theorem ggX1_wets_X0_wetOf : GoodIn wsX1_wets wsX0_wetOf := goodIn_r _ [18, 19, 3, 4, 5, 36, 37, 38, 39, 40, 41, 42, 43] (by decide +kernel) (by decide +kernel)
set_option maxRecDepth 20000 in
theorem gX1_wets_X0_wetOf : GoodIn wsX1_wets (wsV RX1 63 RX0 yX0_wetOf wsX0_wetOf) := goodIn_app (goodIn_of _ (by decide +kernel)) ggX1_wets_X0_wetOf
set_option maxRecDepth 20000 in
theorem ggX1_wets_X0_putWet : GoodIn wsX1_wets wsX0_putWet := goodIn_r _ [23, 19, 3, 4, 5, 36, 37, 38, 39, 40, 41, 42, 43] (by decide +kernel) (by decide +kernel)
set_option maxRecDepth 20000 in
theorem gX1_wets_X0_putWet : GoodIn wsX1_wets (wsV RX1 90 RX0 yX0_putWet wsX0_putWet) := goodIn_app (goodIn_of _ (by decide +kernel)) ggX1_wets_X0_putWet
theorem dX1_wets_0 : decode cX1_wets 0 = .ok (.iload_n 1, 1) := by decide +kernel
theorem dX1_wets_1 : decode cX1_wets 1 = .ok (.invokestatic 53, 3) := by decide +kernel
theorem dX1_wets_4 : decode cX1_wets 4 = .ok (.ifCond .ne 9, 3) := by decide +kernel
theorem dX1_wets_7 : decode cX1_wets 7 = .ok (.aload_n 0, 1) := by decide +kernel
theorem dX1_wets_8 : decode cX1_wets 8 = .ok (.iconst (-1), 1) := by decide +kernel
theorem dX1_wets_9 : decode cX1_wets 9 = .ok (.invokevirtual 38, 3) := by decide +kernel
theorem dX1_wets_12 : decode cX1_wets 12 = .ok (.ireturn, 1) := by decide +kernel
theorem dX1_wets_13 : decode cX1_wets 13 = .ok (.iload_n 2, 1) := by decide +kernel
theorem dX1_wets_14 : decode cX1_wets 14 = .ok (.iconst 0, 1) := by decide +kernel
theorem dX1_wets_15 : decode cX1_wets 15 = .ok (.bipush 9, 2) := by decide +kernel
theorem dX1_wets_17 : decode cX1_wets 17 = .ok (.invokestatic 79, 3) := by decide +kernel
theorem dX1_wets_20 : decode cX1_wets 20 = .ok (.istore_n 3, 1) := by decide +kernel
theorem dX1_wets_21 : decode cX1_wets 21 = .ok (.iload_n 3, 1) := by decide +kernel
theorem dX1_wets_22 : decode cX1_wets 22 = .ok (.ifCond .eq 9, 3) := by decide +kernel
theorem dX1_wets_25 : decode cX1_wets 25 = .ok (.aload_n 0, 1) := by decide +kernel
theorem dX1_wets_26 : decode cX1_wets 26 = .ok (.iload_n 3, 1) := by decide +kernel
theorem dX1_wets_27 : decode cX1_wets 27 = .ok (.invokevirtual 38, 3) := by decide +kernel
theorem dX1_wets_30 : decode cX1_wets 30 = .ok (.ireturn, 1) := by decide +kernel
theorem dX1_wets_31 : decode cX1_wets 31 = .ok (.aload_n 0, 1) := by decide +kernel
theorem dX1_wets_32 : decode cX1_wets 32 = .ok (.getfield 10, 3) := by decide +kernel
theorem dX1_wets_35 : decode cX1_wets 35 = .ok (.iload_n 1, 1) := by decide +kernel
theorem dX1_wets_36 : decode cX1_wets 36 = .ok (.invokevirtual 63, 3) := by decide +kernel
theorem dX1_wets_39 : decode cX1_wets 39 = .ok (.istore 4, 2) := by decide +kernel
theorem dX1_wets_41 : decode cX1_wets 41 = .ok (.aload_n 0, 1) := by decide +kernel
theorem dX1_wets_42 : decode cX1_wets 42 = .ok (.getfield 10, 3) := by decide +kernel
theorem dX1_wets_45 : decode cX1_wets 45 = .ok (.iload_n 1, 1) := by decide +kernel
theorem dX1_wets_46 : decode cX1_wets 46 = .ok (.iload_n 2, 1) := by decide +kernel
theorem dX1_wets_47 : decode cX1_wets 47 = .ok (.invokevirtual 90, 3) := by decide +kernel
theorem dX1_wets_50 : decode cX1_wets 50 = .ok (.iload 4, 2) := by decide +kernel
theorem dX1_wets_52 : decode cX1_wets 52 = .ok (.ireturn, 1) := by decide +kernel
set_option maxRecDepth 20000 in
theorem ggX1_comesIn_X1_isNode : GoodIn wsX1_comesIn wsX1_isNode := goodIn_r _ [5] (by decide +kernel) (by decide +kernel)
set_option maxRecDepth 20000 in
theorem gX1_comesIn_X1_isNode : GoodIn wsX1_comesIn (va_wsS RX1 53 yX1_isNode wsX1_isNode) := goodIn_app (goodIn_of _ (by decide +kernel)) ggX1_comesIn_X1_isNode
set_option maxRecDepth 20000 in
theorem ggX1_comesIn_X1_isWay : GoodIn wsX1_comesIn wsX1_isWay := goodIn_r _ [8] (by decide +kernel) (by decide +kernel)
set_option maxRecDepth 20000 in
theorem gX1_comesIn_X1_isWay : GoodIn wsX1_comesIn (va_wsS RX1 93 yX1_isWay wsX1_isWay) := goodIn_app (goodIn_of _ (by decide +kernel)) ggX1_comesIn_X1_isWay
set_option maxRecDepth 20000 in
theorem ggX1_comesIn_X1_refuse : GoodIn wsX1_comesIn wsX1_refuse := goodIn_r _ [12, 13, 27, 28, 29, 30, 31, 32, 33, 34, 35, 36, 37, 38] (by decide +kernel) (by decide +kernel)
set_option maxRecDepth 20000 in
theorem gX1_comesIn_X1_refuse : GoodIn wsX1_comesIn (wsV RX1 38 RX1 yX1_refuse wsX1_refuse) := goodIn_app (goodIn_of _ (by decide +kernel)) ggX1_comesIn_X1_refuse
set_option maxRecDepth 20000 in
theorem ggX1_comesIn_X0_isFull : GoodIn wsX1_comesIn wsX0_isFull := goodIn_r _ [18, 19, 39, 40, 41, 42, 43, 44, 45, 46] (by decide +kernel) (by decide +kernel)
set_option maxRecDepth 20000 in
theorem gX1_comesIn_X0_isFull : GoodIn wsX1_comesIn (wsV RX1 96 RX0 yX0_isFull wsX0_isFull) := goodIn_app (goodIn_of _ (by decide +kernel)) ggX1_comesIn_X0_isFull
set_option maxRecDepth 20000 in
theorem ggX1_comesIn_X0_add : GoodIn wsX1_comesIn wsX0_add := goodIn_r _ [23, 19, 24, 25, 26, 39, 40, 41, 42, 43, 44, 45, 46] (by decide +kernel) (by decide +kernel)
set_option maxRecDepth 20000 in
theorem gX1_comesIn_X0_add : GoodIn wsX1_comesIn (wsV RX1 100 RX0 yX0_add wsX0_add) := goodIn_app (goodIn_of _ (by decide +kernel)) ggX1_comesIn_X0_add
theorem dX1_comesIn_0 : decode cX1_comesIn 0 = .ok (.iload_n 1, 1) := by decide +kernel
theorem dX1_comesIn_1 : decode cX1_comesIn 1 = .ok (.invokestatic 53, 3) := by decide +kernel
theorem dX1_comesIn_4 : decode cX1_comesIn 4 = .ok (.ifCond .eq 10, 3) := by decide +kernel
theorem dX1_comesIn_7 : decode cX1_comesIn 7 = .ok (.iload_n 2, 1) := by decide +kernel
theorem dX1_comesIn_8 : decode cX1_comesIn 8 = .ok (.invokestatic 93, 3) := by decide +kernel
theorem dX1_comesIn_11 : decode cX1_comesIn 11 = .ok (.ifCond .ne 9, 3) := by decide +kernel
theorem dX1_comesIn_14 : decode cX1_comesIn 14 = .ok (.aload_n 0, 1) := by decide +kernel
theorem dX1_comesIn_15 : decode cX1_comesIn 15 = .ok (.iconst (-1), 1) := by decide +kernel
theorem dX1_comesIn_16 : decode cX1_comesIn 16 = .ok (.invokevirtual 38, 3) := by decide +kernel
theorem dX1_comesIn_19 : decode cX1_comesIn 19 = .ok (.ireturn, 1) := by decide +kernel
theorem dX1_comesIn_20 : decode cX1_comesIn 20 = .ok (.aload_n 0, 1) := by decide +kernel
theorem dX1_comesIn_21 : decode cX1_comesIn 21 = .ok (.getfield 10, 3) := by decide +kernel
theorem dX1_comesIn_24 : decode cX1_comesIn 24 = .ok (.invokevirtual 96, 3) := by decide +kernel
theorem dX1_comesIn_27 : decode cX1_comesIn 27 = .ok (.ifCond .eq 10, 3) := by decide +kernel
theorem dX1_comesIn_30 : decode cX1_comesIn 30 = .ok (.aload_n 0, 1) := by decide +kernel
theorem dX1_comesIn_31 : decode cX1_comesIn 31 = .ok (.bipush (-6), 2) := by decide +kernel
theorem dX1_comesIn_33 : decode cX1_comesIn 33 = .ok (.invokevirtual 38, 3) := by decide +kernel
theorem dX1_comesIn_36 : decode cX1_comesIn 36 = .ok (.ireturn, 1) := by decide +kernel
theorem dX1_comesIn_37 : decode cX1_comesIn 37 = .ok (.aload_n 0, 1) := by decide +kernel
theorem dX1_comesIn_38 : decode cX1_comesIn 38 = .ok (.getfield 10, 3) := by decide +kernel
theorem dX1_comesIn_41 : decode cX1_comesIn 41 = .ok (.iload_n 1, 1) := by decide +kernel
theorem dX1_comesIn_42 : decode cX1_comesIn 42 = .ok (.iload_n 2, 1) := by decide +kernel
theorem dX1_comesIn_43 : decode cX1_comesIn 43 = .ok (.invokevirtual 100, 3) := by decide +kernel
theorem dX1_comesIn_46 : decode cX1_comesIn 46 = .ok (.ireturn, 1) := by decide +kernel
set_option maxRecDepth 20000 in
theorem ggX1_heads_X0_has : GoodIn wsX1_heads wsX0_has := goodIn_r _ [6, 7, 39, 40, 41, 42, 43, 44, 45, 46] (by decide +kernel) (by decide +kernel)
set_option maxRecDepth 20000 in
theorem gX1_heads_X0_has : GoodIn wsX1_heads (wsV RX1 66 RX0 yX0_has wsX0_has) := goodIn_app (goodIn_of _ (by decide +kernel)) ggX1_heads_X0_has
set_option maxRecDepth 20000 in
theorem ggX1_heads_X1_isWay : GoodIn wsX1_heads wsX1_isWay := goodIn_r _ [11] (by decide +kernel) (by decide +kernel)
set_option maxRecDepth 20000 in
theorem gX1_heads_X1_isWay : GoodIn wsX1_heads (va_wsS RX1 93 yX1_isWay wsX1_isWay) := goodIn_app (goodIn_of _ (by decide +kernel)) ggX1_heads_X1_isWay
set_option maxRecDepth 20000 in
theorem ggX1_heads_X1_refuse : GoodIn wsX1_heads wsX1_refuse := goodIn_r _ [15, 16, 27, 28, 29, 30, 31, 32, 33, 34, 35, 36, 37, 38] (by decide +kernel) (by decide +kernel)
set_option maxRecDepth 20000 in
theorem gX1_heads_X1_refuse : GoodIn wsX1_heads (wsV RX1 38 RX1 yX1_refuse wsX1_refuse) := goodIn_app (goodIn_of _ (by decide +kernel)) ggX1_heads_X1_refuse
set_option maxRecDepth 20000 in
theorem ggX1_heads_X0_headingOf : GoodIn wsX1_heads wsX0_headingOf := goodIn_r _ [20, 21, 22, 3, 4, 5, 6, 7, 39, 40, 41, 42, 43, 44, 45, 46] (by decide +kernel) (by decide +kernel)
set_option maxRecDepth 20000 in
theorem gX1_heads_X0_headingOf : GoodIn wsX1_heads (wsV RX1 103 RX0 yX0_headingOf wsX0_headingOf) := goodIn_app (goodIn_of _ (by decide +kernel)) ggX1_heads_X0_headingOf
set_option maxRecDepth 20000 in
theorem ggX1_heads_X0_putHeading : GoodIn wsX1_heads wsX0_putHeading := goodIn_r _ [26, 21, 22, 3, 4, 5, 6, 7, 39, 40, 41, 42, 43, 44, 45, 46] (by decide +kernel) (by decide +kernel)
set_option maxRecDepth 20000 in
theorem gX1_heads_X0_putHeading : GoodIn wsX1_heads (wsV RX1 106 RX0 yX0_putHeading wsX0_putHeading) := goodIn_app (goodIn_of _ (by decide +kernel)) ggX1_heads_X0_putHeading
theorem dX1_heads_0 : decode cX1_heads 0 = .ok (.aload_n 0, 1) := by decide +kernel
theorem dX1_heads_1 : decode cX1_heads 1 = .ok (.getfield 10, 3) := by decide +kernel
theorem dX1_heads_4 : decode cX1_heads 4 = .ok (.iload_n 1, 1) := by decide +kernel
theorem dX1_heads_5 : decode cX1_heads 5 = .ok (.invokevirtual 66, 3) := by decide +kernel
theorem dX1_heads_8 : decode cX1_heads 8 = .ok (.ifCond .eq 10, 3) := by decide +kernel
theorem dX1_heads_11 : decode cX1_heads 11 = .ok (.iload_n 2, 1) := by decide +kernel
theorem dX1_heads_12 : decode cX1_heads 12 = .ok (.invokestatic 93, 3) := by decide +kernel
theorem dX1_heads_15 : decode cX1_heads 15 = .ok (.ifCond .ne 9, 3) := by decide +kernel
theorem dX1_heads_18 : decode cX1_heads 18 = .ok (.aload_n 0, 1) := by decide +kernel
theorem dX1_heads_19 : decode cX1_heads 19 = .ok (.iconst (-1), 1) := by decide +kernel
theorem dX1_heads_20 : decode cX1_heads 20 = .ok (.invokevirtual 38, 3) := by decide +kernel
theorem dX1_heads_23 : decode cX1_heads 23 = .ok (.ireturn, 1) := by decide +kernel
theorem dX1_heads_24 : decode cX1_heads 24 = .ok (.aload_n 0, 1) := by decide +kernel
theorem dX1_heads_25 : decode cX1_heads 25 = .ok (.getfield 10, 3) := by decide +kernel
theorem dX1_heads_28 : decode cX1_heads 28 = .ok (.iload_n 1, 1) := by decide +kernel
theorem dX1_heads_29 : decode cX1_heads 29 = .ok (.invokevirtual 103, 3) := by decide +kernel
theorem dX1_heads_32 : decode cX1_heads 32 = .ok (.istore_n 3, 1) := by decide +kernel
theorem dX1_heads_33 : decode cX1_heads 33 = .ok (.aload_n 0, 1) := by decide +kernel
theorem dX1_heads_34 : decode cX1_heads 34 = .ok (.getfield 10, 3) := by decide +kernel
theorem dX1_heads_37 : decode cX1_heads 37 = .ok (.iload_n 1, 1) := by decide +kernel
theorem dX1_heads_38 : decode cX1_heads 38 = .ok (.iload_n 2, 1) := by decide +kernel
theorem dX1_heads_39 : decode cX1_heads 39 = .ok (.invokevirtual 106, 3) := by decide +kernel
theorem dX1_heads_42 : decode cX1_heads 42 = .ok (.iload_n 3, 1) := by decide +kernel
theorem dX1_heads_43 : decode cX1_heads 43 = .ok (.ireturn, 1) := by decide +kernel
set_option maxRecDepth 20000 in
theorem ggX1_stands_X0_has : GoodIn wsX1_stands wsX0_has := goodIn_r _ [6, 7, 39, 40, 41, 42, 43, 44, 45, 46] (by decide +kernel) (by decide +kernel)
set_option maxRecDepth 20000 in
theorem gX1_stands_X0_has : GoodIn wsX1_stands (wsV RX1 66 RX0 yX0_has wsX0_has) := goodIn_app (goodIn_of _ (by decide +kernel)) ggX1_stands_X0_has
set_option maxRecDepth 20000 in
theorem ggX1_stands_X1_isNode : GoodIn wsX1_stands wsX1_isNode := goodIn_r _ [11] (by decide +kernel) (by decide +kernel)
set_option maxRecDepth 20000 in
theorem gX1_stands_X1_isNode : GoodIn wsX1_stands (va_wsS RX1 53 yX1_isNode wsX1_isNode) := goodIn_app (goodIn_of _ (by decide +kernel)) ggX1_stands_X1_isNode
set_option maxRecDepth 20000 in
theorem ggX1_stands_X1_refuse : GoodIn wsX1_stands wsX1_refuse := goodIn_r _ [15, 16, 27, 28, 29, 30, 31, 32, 33, 34, 35, 36, 37, 38] (by decide +kernel) (by decide +kernel)
set_option maxRecDepth 20000 in
theorem gX1_stands_X1_refuse : GoodIn wsX1_stands (wsV RX1 38 RX1 yX1_refuse wsX1_refuse) := goodIn_app (goodIn_of _ (by decide +kernel)) ggX1_stands_X1_refuse
set_option maxRecDepth 20000 in
theorem ggX1_stands_X0_placeOf : GoodIn wsX1_stands wsX0_placeOf := goodIn_r _ [20, 21, 22, 3, 4, 5, 6, 7, 39, 40, 41, 42, 43, 44, 45, 46] (by decide +kernel) (by decide +kernel)
set_option maxRecDepth 20000 in
theorem gX1_stands_X0_placeOf : GoodIn wsX1_stands (wsV RX1 109 RX0 yX0_placeOf wsX0_placeOf) := goodIn_app (goodIn_of _ (by decide +kernel)) ggX1_stands_X0_placeOf
set_option maxRecDepth 20000 in
theorem ggX1_stands_X0_putPlace : GoodIn wsX1_stands wsX0_putPlace := goodIn_r _ [26, 21, 22, 3, 4, 5, 6, 7, 39, 40, 41, 42, 43, 44, 45, 46] (by decide +kernel) (by decide +kernel)
set_option maxRecDepth 20000 in
theorem gX1_stands_X0_putPlace : GoodIn wsX1_stands (wsV RX1 112 RX0 yX0_putPlace wsX0_putPlace) := goodIn_app (goodIn_of _ (by decide +kernel)) ggX1_stands_X0_putPlace
theorem dX1_stands_0 : decode cX1_stands 0 = .ok (.aload_n 0, 1) := by decide +kernel
theorem dX1_stands_1 : decode cX1_stands 1 = .ok (.getfield 10, 3) := by decide +kernel
theorem dX1_stands_4 : decode cX1_stands 4 = .ok (.iload_n 1, 1) := by decide +kernel
theorem dX1_stands_5 : decode cX1_stands 5 = .ok (.invokevirtual 66, 3) := by decide +kernel
theorem dX1_stands_8 : decode cX1_stands 8 = .ok (.ifCond .eq 10, 3) := by decide +kernel
theorem dX1_stands_11 : decode cX1_stands 11 = .ok (.iload_n 2, 1) := by decide +kernel
theorem dX1_stands_12 : decode cX1_stands 12 = .ok (.invokestatic 53, 3) := by decide +kernel
theorem dX1_stands_15 : decode cX1_stands 15 = .ok (.ifCond .ne 9, 3) := by decide +kernel
theorem dX1_stands_18 : decode cX1_stands 18 = .ok (.aload_n 0, 1) := by decide +kernel
theorem dX1_stands_19 : decode cX1_stands 19 = .ok (.iconst (-1), 1) := by decide +kernel
theorem dX1_stands_20 : decode cX1_stands 20 = .ok (.invokevirtual 38, 3) := by decide +kernel
theorem dX1_stands_23 : decode cX1_stands 23 = .ok (.ireturn, 1) := by decide +kernel
theorem dX1_stands_24 : decode cX1_stands 24 = .ok (.aload_n 0, 1) := by decide +kernel
theorem dX1_stands_25 : decode cX1_stands 25 = .ok (.getfield 10, 3) := by decide +kernel
theorem dX1_stands_28 : decode cX1_stands 28 = .ok (.iload_n 1, 1) := by decide +kernel
theorem dX1_stands_29 : decode cX1_stands 29 = .ok (.invokevirtual 109, 3) := by decide +kernel
theorem dX1_stands_32 : decode cX1_stands 32 = .ok (.istore_n 3, 1) := by decide +kernel
theorem dX1_stands_33 : decode cX1_stands 33 = .ok (.aload_n 0, 1) := by decide +kernel
theorem dX1_stands_34 : decode cX1_stands 34 = .ok (.getfield 10, 3) := by decide +kernel
theorem dX1_stands_37 : decode cX1_stands 37 = .ok (.iload_n 1, 1) := by decide +kernel
theorem dX1_stands_38 : decode cX1_stands 38 = .ok (.iload_n 2, 1) := by decide +kernel
theorem dX1_stands_39 : decode cX1_stands 39 = .ok (.invokevirtual 112, 3) := by decide +kernel
theorem dX1_stands_42 : decode cX1_stands 42 = .ok (.iload_n 3, 1) := by decide +kernel
theorem dX1_stands_43 : decode cX1_stands 43 = .ok (.ireturn, 1) := by decide +kernel
set_option maxRecDepth 20000 in
theorem ggX1_steps_X1_outside : GoodIn wsX1_steps wsX1_outside := goodIn_r _ [5] (by decide +kernel) (by decide +kernel)
set_option maxRecDepth 20000 in
theorem gX1_steps_X1_outside : GoodIn wsX1_steps (va_wsS RX1 79 yX1_outside wsX1_outside) := goodIn_app (goodIn_of _ (by decide +kernel)) ggX1_steps_X1_outside
set_option maxRecDepth 20000 in
theorem ggX1_steps_X1_refuse : GoodIn wsX1_steps wsX1_refuse := goodIn_r _ [9, 10, 59, 60, 61, 62, 63, 64, 65, 66, 67, 68, 69, 70] (by decide +kernel) (by decide +kernel)
set_option maxRecDepth 20000 in
theorem gX1_steps_X1_refuse : GoodIn wsX1_steps (wsV RX1 38 RX1 yX1_refuse wsX1_refuse) := goodIn_app (goodIn_of _ (by decide +kernel)) ggX1_steps_X1_refuse
set_option maxRecDepth 20000 in
theorem ggX1_steps_X0_stepCount : GoodIn wsX1_steps wsX0_stepCount := goodIn_r _ [15, 16, 71, 72, 73, 74, 75, 76, 77, 78] (by decide +kernel) (by decide +kernel)
set_option maxRecDepth 20000 in
theorem gX1_steps_X0_stepCount : GoodIn wsX1_steps (wsV RX1 115 RX0 yX0_stepCount wsX0_stepCount) := goodIn_app (goodIn_of _ (by decide +kernel)) ggX1_steps_X0_stepCount
set_option maxRecDepth 20000 in
theorem ggX1_steps_X0_goOn : GoodIn wsX1_steps wsX0_goOn := goodIn_r _ [20, 16, 21, 22, 23, 24, 14, 25, 26, 27, 28, 29, 30, 31, 32, 33, 34, 35, 36, 37, 38, 39, 40, 4, 41, 42, 43, 44, 45, 46, 71, 72, 73, 74, 75, 76, 77, 78] (by decide +kernel) (by decide +kernel)
set_option maxRecDepth 20000 in
theorem gX1_steps_X0_goOn : GoodIn wsX1_steps (wsV RX1 118 RX0 yX0_goOn wsX0_goOn) := goodIn_app (goodIn_of _ (by decide +kernel)) ggX1_steps_X0_goOn
set_option maxRecDepth 20000 in
theorem ggX1_steps_X0_allWet : GoodIn wsX1_steps wsX0_allWet := goodIn_r _ [50, 51, 52, 53, 14, 54, 55, 56, 57, 58, 27, 40, 4, 41, 71, 72, 73, 74, 75, 76, 77, 78] (by decide +kernel) (by decide +kernel)
set_option maxRecDepth 20000 in
theorem gX1_steps_X0_allWet : GoodIn wsX1_steps (wsV RX1 121 RX0 yX0_allWet wsX0_allWet) := goodIn_app (goodIn_of _ (by decide +kernel)) ggX1_steps_X0_allWet
theorem dX1_steps_0 : decode cX1_steps 0 = .ok (.iload_n 1, 1) := by decide +kernel
theorem dX1_steps_1 : decode cX1_steps 1 = .ok (.iconst 1, 1) := by decide +kernel
theorem dX1_steps_2 : decode cX1_steps 2 = .ok (.bipush 60, 2) := by decide +kernel
theorem dX1_steps_4 : decode cX1_steps 4 = .ok (.invokestatic 79, 3) := by decide +kernel
theorem dX1_steps_7 : decode cX1_steps 7 = .ok (.istore_n 2, 1) := by decide +kernel
theorem dX1_steps_8 : decode cX1_steps 8 = .ok (.iload_n 2, 1) := by decide +kernel
theorem dX1_steps_9 : decode cX1_steps 9 = .ok (.ifCond .eq 9, 3) := by decide +kernel
theorem dX1_steps_12 : decode cX1_steps 12 = .ok (.aload_n 0, 1) := by decide +kernel
theorem dX1_steps_13 : decode cX1_steps 13 = .ok (.iload_n 2, 1) := by decide +kernel
theorem dX1_steps_14 : decode cX1_steps 14 = .ok (.invokevirtual 38, 3) := by decide +kernel
theorem dX1_steps_17 : decode cX1_steps 17 = .ok (.ireturn, 1) := by decide +kernel
theorem dX1_steps_18 : decode cX1_steps 18 = .ok (.aload_n 0, 1) := by decide +kernel
theorem dX1_steps_19 : decode cX1_steps 19 = .ok (.getfield 10, 3) := by decide +kernel
theorem dX1_steps_22 : decode cX1_steps 22 = .ok (.invokevirtual 115, 3) := by decide +kernel
theorem dX1_steps_25 : decode cX1_steps 25 = .ok (.iload_n 1, 1) := by decide +kernel
theorem dX1_steps_26 : decode cX1_steps 26 = .ok (.iadd, 1) := by decide +kernel
theorem dX1_steps_27 : decode cX1_steps 27 = .ok (.sipush 999, 3) := by decide +kernel
theorem dX1_steps_30 : decode cX1_steps 30 = .ok (.if_icmp .le 10, 3) := by decide +kernel
theorem dX1_steps_33 : decode cX1_steps 33 = .ok (.aload_n 0, 1) := by decide +kernel
theorem dX1_steps_34 : decode cX1_steps 34 = .ok (.bipush (-6), 2) := by decide +kernel
theorem dX1_steps_36 : decode cX1_steps 36 = .ok (.invokevirtual 38, 3) := by decide +kernel
theorem dX1_steps_39 : decode cX1_steps 39 = .ok (.ireturn, 1) := by decide +kernel
theorem dX1_steps_40 : decode cX1_steps 40 = .ok (.aload_n 0, 1) := by decide +kernel
theorem dX1_steps_41 : decode cX1_steps 41 = .ok (.getfield 10, 3) := by decide +kernel
theorem dX1_steps_44 : decode cX1_steps 44 = .ok (.iload_n 1, 1) := by decide +kernel
theorem dX1_steps_45 : decode cX1_steps 45 = .ok (.iconst 0, 1) := by decide +kernel
theorem dX1_steps_46 : decode cX1_steps 46 = .ok (.invokevirtual 118, 3) := by decide +kernel
theorem dX1_steps_49 : decode cX1_steps 49 = .ok (.aload_n 0, 1) := by decide +kernel
theorem dX1_steps_50 : decode cX1_steps 50 = .ok (.getfield 10, 3) := by decide +kernel
theorem dX1_steps_53 : decode cX1_steps 53 = .ok (.invokevirtual 121, 3) := by decide +kernel
theorem dX1_steps_56 : decode cX1_steps 56 = .ok (.ireturn, 1) := by decide +kernel
set_option maxRecDepth 20000 in
theorem ggX1_personThen_X0_has : GoodIn wsX1_personThen wsX0_has := goodIn_r _ [7, 8, 81, 82, 83, 84, 85, 86, 87, 88] (by decide +kernel) (by decide +kernel)
set_option maxRecDepth 20000 in
theorem gX1_personThen_X0_has : GoodIn wsX1_personThen (wsV RX1 66 RX0 yX0_has wsX0_has) := goodIn_app (goodIn_of _ (by decide +kernel)) ggX1_personThen_X0_has
set_option maxRecDepth 20000 in
theorem ggX1_personThen_X1_refuse : GoodIn wsX1_personThen wsX1_refuse := goodIn_r _ [13, 14, 69, 70, 71, 72, 73, 74, 75, 76, 77, 78, 79, 80] (by decide +kernel) (by decide +kernel)
set_option maxRecDepth 20000 in
theorem gX1_personThen_X1_refuse : GoodIn wsX1_personThen (wsV RX1 38 RX1 yX1_refuse wsX1_refuse) := goodIn_app (goodIn_of _ (by decide +kernel)) ggX1_personThen_X1_refuse
set_option maxRecDepth 20000 in
theorem ggX1_personThen_X1_outside : GoodIn wsX1_personThen wsX1_outside := goodIn_r _ [17] (by decide +kernel) (by decide +kernel)
set_option maxRecDepth 20000 in
theorem gX1_personThen_X1_outside : GoodIn wsX1_personThen (va_wsS RX1 79 yX1_outside wsX1_outside) := goodIn_app (goodIn_of _ (by decide +kernel)) ggX1_personThen_X1_outside
set_option maxRecDepth 20000 in
theorem ggX1_personThen_X0_becomes : GoodIn wsX1_personThen wsX0_becomes := goodIn_r _ [21, 22, 23, 24, 25, 26, 27, 28, 29, 30, 31, 8, 32, 81, 82, 83, 84, 85, 86, 87, 88] (by decide +kernel) (by decide +kernel)
set_option maxRecDepth 20000 in
theorem gX1_personThen_X0_becomes : GoodIn wsX1_personThen (wsV RX1 124 RX0 yX0_becomes wsX0_becomes) := goodIn_app (goodIn_of _ (by decide +kernel)) ggX1_personThen_X0_becomes
set_option maxRecDepth 20000 in
theorem ggX1_personThen_X0_goOn : GoodIn wsX1_personThen wsX0_goOn := goodIn_r _ [36, 32, 8, 37, 38, 39, 6, 40, 29, 28, 22, 27, 30, 31, 41, 42, 43, 44, 45, 4, 5, 7, 46, 12, 47, 48, 49, 50, 51, 52, 81, 82, 83, 84, 85, 86, 87, 88] (by decide +kernel) (by decide +kernel)
set_option maxRecDepth 20000 in
theorem gX1_personThen_X0_goOn : GoodIn wsX1_personThen (wsV RX1 118 RX0 yX0_goOn wsX0_goOn) := goodIn_app (goodIn_of _ (by decide +kernel)) ggX1_personThen_X0_goOn
set_option maxRecDepth 20000 in
theorem ggX1_personThen_X0_ofPerson : GoodIn wsX1_personThen wsX0_ofPerson := goodIn_r _ [56, 57, 58, 59, 6, 60, 29, 45, 4, 5, 7, 8, 61, 62, 63, 64, 30, 65, 66, 67, 68, 31, 81, 82, 83, 84, 85, 86, 87, 88] (by decide +kernel) (by decide +kernel)
set_option maxRecDepth 20000 in
theorem gX1_personThen_X0_ofPerson : GoodIn wsX1_personThen (wsV RX1 72 RX0 yX0_ofPerson wsX0_ofPerson) := goodIn_app (goodIn_of _ (by decide +kernel)) ggX1_personThen_X0_ofPerson
theorem dX1_personThen_0 : decode cX1_personThen 0 = .ok (.aload_n 0, 1) := by decide +kernel
theorem dX1_personThen_1 : decode cX1_personThen 1 = .ok (.getfield 10, 3) := by decide +kernel
theorem dX1_personThen_4 : decode cX1_personThen 4 = .ok (.iload_n 1, 1) := by decide +kernel
theorem dX1_personThen_5 : decode cX1_personThen 5 = .ok (.invokevirtual 66, 3) := by decide +kernel
theorem dX1_personThen_8 : decode cX1_personThen 8 = .ok (.ifCond .ne 9, 3) := by decide +kernel
theorem dX1_personThen_11 : decode cX1_personThen 11 = .ok (.aload_n 0, 1) := by decide +kernel
theorem dX1_personThen_12 : decode cX1_personThen 12 = .ok (.iconst (-1), 1) := by decide +kernel
theorem dX1_personThen_13 : decode cX1_personThen 13 = .ok (.invokevirtual 38, 3) := by decide +kernel
theorem dX1_personThen_16 : decode cX1_personThen 16 = .ok (.ireturn, 1) := by decide +kernel
theorem dX1_personThen_17 : decode cX1_personThen 17 = .ok (.iload_n 2, 1) := by decide +kernel
theorem dX1_personThen_18 : decode cX1_personThen 18 = .ok (.iconst 0, 1) := by decide +kernel
theorem dX1_personThen_19 : decode cX1_personThen 19 = .ok (.bipush 60, 2) := by decide +kernel
theorem dX1_personThen_21 : decode cX1_personThen 21 = .ok (.invokestatic 79, 3) := by decide +kernel
theorem dX1_personThen_24 : decode cX1_personThen 24 = .ok (.istore 4, 2) := by decide +kernel
theorem dX1_personThen_26 : decode cX1_personThen 26 = .ok (.iload 4, 2) := by decide +kernel
theorem dX1_personThen_28 : decode cX1_personThen 28 = .ok (.ifCond .eq 10, 3) := by decide +kernel
theorem dX1_personThen_31 : decode cX1_personThen 31 = .ok (.aload_n 0, 1) := by decide +kernel
theorem dX1_personThen_32 : decode cX1_personThen 32 = .ok (.iload 4, 2) := by decide +kernel
theorem dX1_personThen_34 : decode cX1_personThen 34 = .ok (.invokevirtual 38, 3) := by decide +kernel
theorem dX1_personThen_37 : decode cX1_personThen 37 = .ok (.ireturn, 1) := by decide +kernel
theorem dX1_personThen_38 : decode cX1_personThen 38 = .ok (.iload_n 3, 1) := by decide +kernel
theorem dX1_personThen_39 : decode cX1_personThen 39 = .ok (.ifCond .lt 8, 3) := by decide +kernel
theorem dX1_personThen_42 : decode cX1_personThen 42 = .ok (.iload_n 3, 1) := by decide +kernel
theorem dX1_personThen_43 : decode cX1_personThen 43 = .ok (.iconst 2, 1) := by decide +kernel
theorem dX1_personThen_44 : decode cX1_personThen 44 = .ok (.if_icmp .le 10, 3) := by decide +kernel
theorem dX1_personThen_47 : decode cX1_personThen 47 = .ok (.aload_n 0, 1) := by decide +kernel
theorem dX1_personThen_48 : decode cX1_personThen 48 = .ok (.bipush (-2), 2) := by decide +kernel
theorem dX1_personThen_50 : decode cX1_personThen 50 = .ok (.invokevirtual 38, 3) := by decide +kernel
theorem dX1_personThen_53 : decode cX1_personThen 53 = .ok (.ireturn, 1) := by decide +kernel
theorem dX1_personThen_54 : decode cX1_personThen 54 = .ok (.aload_n 0, 1) := by decide +kernel
theorem dX1_personThen_55 : decode cX1_personThen 55 = .ok (.getfield 16, 3) := by decide +kernel
theorem dX1_personThen_58 : decode cX1_personThen 58 = .ok (.aload_n 0, 1) := by decide +kernel
theorem dX1_personThen_59 : decode cX1_personThen 59 = .ok (.getfield 10, 3) := by decide +kernel
theorem dX1_personThen_62 : decode cX1_personThen 62 = .ok (.invokevirtual 124, 3) := by decide +kernel
theorem dX1_personThen_65 : decode cX1_personThen 65 = .ok (.aload_n 0, 1) := by decide +kernel
theorem dX1_personThen_66 : decode cX1_personThen 66 = .ok (.getfield 16, 3) := by decide +kernel
theorem dX1_personThen_69 : decode cX1_personThen 69 = .ok (.iload_n 2, 1) := by decide +kernel
theorem dX1_personThen_70 : decode cX1_personThen 70 = .ok (.iconst 0, 1) := by decide +kernel
theorem dX1_personThen_71 : decode cX1_personThen 71 = .ok (.invokevirtual 118, 3) := by decide +kernel
theorem dX1_personThen_74 : decode cX1_personThen 74 = .ok (.aload_n 0, 1) := by decide +kernel
theorem dX1_personThen_75 : decode cX1_personThen 75 = .ok (.getfield 16, 3) := by decide +kernel
theorem dX1_personThen_78 : decode cX1_personThen 78 = .ok (.iload_n 1, 1) := by decide +kernel
theorem dX1_personThen_79 : decode cX1_personThen 79 = .ok (.iload_n 3, 1) := by decide +kernel
theorem dX1_personThen_80 : decode cX1_personThen 80 = .ok (.invokevirtual 72, 3) := by decide +kernel
theorem dX1_personThen_83 : decode cX1_personThen 83 = .ok (.ireturn, 1) := by decide +kernel
set_option maxRecDepth 20000 in
theorem ggX1_wetThen_X1_isNode : GoodIn wsX1_wetThen wsX1_isNode := goodIn_r _ [6] (by decide +kernel) (by decide +kernel)
set_option maxRecDepth 20000 in
theorem gX1_wetThen_X1_isNode : GoodIn wsX1_wetThen (va_wsS RX1 53 yX1_isNode wsX1_isNode) := goodIn_app (goodIn_of _ (by decide +kernel)) ggX1_wetThen_X1_isNode
set_option maxRecDepth 20000 in
theorem ggX1_wetThen_X1_refuse : GoodIn wsX1_wetThen wsX1_refuse := goodIn_r _ [10, 11, 57, 58, 59, 60, 61, 62, 63, 64, 65, 66, 67, 68] (by decide +kernel) (by decide +kernel)
set_option maxRecDepth 20000 in
theorem gX1_wetThen_X1_refuse : GoodIn wsX1_wetThen (wsV RX1 38 RX1 yX1_refuse wsX1_refuse) := goodIn_app (goodIn_of _ (by decide +kernel)) ggX1_wetThen_X1_refuse
set_option maxRecDepth 20000 in
theorem ggX1_wetThen_X1_outside : GoodIn wsX1_wetThen wsX1_outside := goodIn_r _ [14] (by decide +kernel) (by decide +kernel)
set_option maxRecDepth 20000 in
theorem gX1_wetThen_X1_outside : GoodIn wsX1_wetThen (va_wsS RX1 79 yX1_outside wsX1_outside) := goodIn_app (goodIn_of _ (by decide +kernel)) ggX1_wetThen_X1_outside
set_option maxRecDepth 20000 in
theorem ggX1_wetThen_X0_becomes : GoodIn wsX1_wetThen wsX0_becomes := goodIn_r _ [19, 20, 21, 22, 23, 24, 25, 26, 27, 28, 29, 30, 31, 69, 70, 71, 72, 73, 74, 75, 76] (by decide +kernel) (by decide +kernel)
set_option maxRecDepth 20000 in
theorem gX1_wetThen_X0_becomes : GoodIn wsX1_wetThen (wsV RX1 124 RX0 yX0_becomes wsX0_becomes) := goodIn_app (goodIn_of _ (by decide +kernel)) ggX1_wetThen_X0_becomes
set_option maxRecDepth 20000 in
theorem ggX1_wetThen_X0_goOn : GoodIn wsX1_wetThen wsX0_goOn := goodIn_r _ [35, 31, 30, 36, 37, 38, 18, 39, 27, 26, 20, 25, 28, 29, 40, 41, 42, 43, 44, 45, 46, 47, 4, 5, 6, 48, 49, 50, 51, 52, 69, 70, 71, 72, 73, 74, 75, 76] (by decide +kernel) (by decide +kernel)
set_option maxRecDepth 20000 in
theorem gX1_wetThen_X0_goOn : GoodIn wsX1_wetThen (wsV RX1 118 RX0 yX0_goOn wsX0_goOn) := goodIn_app (goodIn_of _ (by decide +kernel)) ggX1_wetThen_X0_goOn
set_option maxRecDepth 20000 in
theorem ggX1_wetThen_X0_wetOf : GoodIn wsX1_wetThen wsX0_wetOf := goodIn_r _ [56, 26, 4, 5, 6, 69, 70, 71, 72, 73, 74, 75, 76] (by decide +kernel) (by decide +kernel)
set_option maxRecDepth 20000 in
theorem gX1_wetThen_X0_wetOf : GoodIn wsX1_wetThen (wsV RX1 63 RX0 yX0_wetOf wsX0_wetOf) := goodIn_app (goodIn_of _ (by decide +kernel)) ggX1_wetThen_X0_wetOf
theorem dX1_wetThen_0 : decode cX1_wetThen 0 = .ok (.iload_n 1, 1) := by decide +kernel
theorem dX1_wetThen_1 : decode cX1_wetThen 1 = .ok (.invokestatic 53, 3) := by decide +kernel
theorem dX1_wetThen_4 : decode cX1_wetThen 4 = .ok (.ifCond .ne 9, 3) := by decide +kernel
theorem dX1_wetThen_7 : decode cX1_wetThen 7 = .ok (.aload_n 0, 1) := by decide +kernel
theorem dX1_wetThen_8 : decode cX1_wetThen 8 = .ok (.iconst (-1), 1) := by decide +kernel
theorem dX1_wetThen_9 : decode cX1_wetThen 9 = .ok (.invokevirtual 38, 3) := by decide +kernel
theorem dX1_wetThen_12 : decode cX1_wetThen 12 = .ok (.ireturn, 1) := by decide +kernel
theorem dX1_wetThen_13 : decode cX1_wetThen 13 = .ok (.iload_n 2, 1) := by decide +kernel
theorem dX1_wetThen_14 : decode cX1_wetThen 14 = .ok (.iconst 0, 1) := by decide +kernel
theorem dX1_wetThen_15 : decode cX1_wetThen 15 = .ok (.bipush 60, 2) := by decide +kernel
theorem dX1_wetThen_17 : decode cX1_wetThen 17 = .ok (.invokestatic 79, 3) := by decide +kernel
theorem dX1_wetThen_20 : decode cX1_wetThen 20 = .ok (.istore_n 3, 1) := by decide +kernel
theorem dX1_wetThen_21 : decode cX1_wetThen 21 = .ok (.iload_n 3, 1) := by decide +kernel
theorem dX1_wetThen_22 : decode cX1_wetThen 22 = .ok (.ifCond .eq 9, 3) := by decide +kernel
theorem dX1_wetThen_25 : decode cX1_wetThen 25 = .ok (.aload_n 0, 1) := by decide +kernel
theorem dX1_wetThen_26 : decode cX1_wetThen 26 = .ok (.iload_n 3, 1) := by decide +kernel
theorem dX1_wetThen_27 : decode cX1_wetThen 27 = .ok (.invokevirtual 38, 3) := by decide +kernel
theorem dX1_wetThen_30 : decode cX1_wetThen 30 = .ok (.ireturn, 1) := by decide +kernel
theorem dX1_wetThen_31 : decode cX1_wetThen 31 = .ok (.aload_n 0, 1) := by decide +kernel
theorem dX1_wetThen_32 : decode cX1_wetThen 32 = .ok (.getfield 16, 3) := by decide +kernel
theorem dX1_wetThen_35 : decode cX1_wetThen 35 = .ok (.aload_n 0, 1) := by decide +kernel
theorem dX1_wetThen_36 : decode cX1_wetThen 36 = .ok (.getfield 10, 3) := by decide +kernel
theorem dX1_wetThen_39 : decode cX1_wetThen 39 = .ok (.invokevirtual 124, 3) := by decide +kernel
theorem dX1_wetThen_42 : decode cX1_wetThen 42 = .ok (.aload_n 0, 1) := by decide +kernel
theorem dX1_wetThen_43 : decode cX1_wetThen 43 = .ok (.getfield 16, 3) := by decide +kernel
theorem dX1_wetThen_46 : decode cX1_wetThen 46 = .ok (.iload_n 2, 1) := by decide +kernel
theorem dX1_wetThen_47 : decode cX1_wetThen 47 = .ok (.iconst 0, 1) := by decide +kernel
theorem dX1_wetThen_48 : decode cX1_wetThen 48 = .ok (.invokevirtual 118, 3) := by decide +kernel
theorem dX1_wetThen_51 : decode cX1_wetThen 51 = .ok (.aload_n 0, 1) := by decide +kernel
theorem dX1_wetThen_52 : decode cX1_wetThen 52 = .ok (.getfield 16, 3) := by decide +kernel
theorem dX1_wetThen_55 : decode cX1_wetThen 55 = .ok (.iload_n 1, 1) := by decide +kernel
theorem dX1_wetThen_56 : decode cX1_wetThen 56 = .ok (.invokevirtual 63, 3) := by decide +kernel
theorem dX1_wetThen_59 : decode cX1_wetThen 59 = .ok (.ireturn, 1) := by decide +kernel
set_option maxRecDepth 20000 in
theorem ggX1_comes_X0_has : GoodIn wsX1_comes wsX0_has := goodIn_r _ [7, 8, 71, 72, 73, 74, 75, 76, 77, 78] (by decide +kernel) (by decide +kernel)
set_option maxRecDepth 20000 in
theorem gX1_comes_X0_has : GoodIn wsX1_comes (wsV RX1 66 RX0 yX0_has wsX0_has) := goodIn_app (goodIn_of _ (by decide +kernel)) ggX1_comes_X0_has
set_option maxRecDepth 20000 in
theorem ggX1_comes_X1_isNode : GoodIn wsX1_comes wsX1_isNode := goodIn_r _ [12] (by decide +kernel) (by decide +kernel)
set_option maxRecDepth 20000 in
theorem gX1_comes_X1_isNode : GoodIn wsX1_comes (va_wsS RX1 53 yX1_isNode wsX1_isNode) := goodIn_app (goodIn_of _ (by decide +kernel)) ggX1_comes_X1_isNode
set_option maxRecDepth 20000 in
theorem ggX1_comes_X1_refuse : GoodIn wsX1_comes wsX1_refuse := goodIn_r _ [16, 17, 59, 60, 61, 62, 63, 64, 65, 66, 67, 68, 69, 70] (by decide +kernel) (by decide +kernel)
set_option maxRecDepth 20000 in
theorem gX1_comes_X1_refuse : GoodIn wsX1_comes (wsV RX1 38 RX1 yX1_refuse wsX1_refuse) := goodIn_app (goodIn_of _ (by decide +kernel)) ggX1_comes_X1_refuse
set_option maxRecDepth 20000 in
theorem ggX1_comes_X0_becomes : GoodIn wsX1_comes wsX0_becomes := goodIn_r _ [21, 22, 23, 24, 25, 26, 27, 28, 29, 30, 31, 8, 32, 71, 72, 73, 74, 75, 76, 77, 78] (by decide +kernel) (by decide +kernel)
set_option maxRecDepth 20000 in
theorem gX1_comes_X0_becomes : GoodIn wsX1_comes (wsV RX1 124 RX0 yX0_becomes wsX0_becomes) := goodIn_app (goodIn_of _ (by decide +kernel)) ggX1_comes_X0_becomes
set_option maxRecDepth 20000 in
theorem ggX1_comes_X0_soonestAt : GoodIn wsX1_comes wsX0_soonestAt := goodIn_r _ [36, 37, 38, 39, 6, 40, 29, 41, 4, 5, 7, 8, 42, 43, 44, 45, 32, 46, 47, 48, 49, 28, 22, 27, 30, 31, 50, 51, 52, 53, 10, 11, 12, 54, 55, 56, 57, 58, 71, 72, 73, 74, 75, 76, 77, 78] (by decide +kernel) (by decide +kernel)
set_option maxRecDepth 20000 in
theorem gX1_comes_X0_soonestAt : GoodIn wsX1_comes (wsV RX1 128 RX0 yX0_soonestAt wsX0_soonestAt) := goodIn_app (goodIn_of _ (by decide +kernel)) ggX1_comes_X0_soonestAt
theorem dX1_comes_0 : decode cX1_comes 0 = .ok (.aload_n 0, 1) := by decide +kernel
theorem dX1_comes_1 : decode cX1_comes 1 = .ok (.getfield 10, 3) := by decide +kernel
theorem dX1_comes_4 : decode cX1_comes 4 = .ok (.iload_n 1, 1) := by decide +kernel
theorem dX1_comes_5 : decode cX1_comes 5 = .ok (.invokevirtual 66, 3) := by decide +kernel
theorem dX1_comes_8 : decode cX1_comes 8 = .ok (.ifCond .eq 10, 3) := by decide +kernel
theorem dX1_comes_11 : decode cX1_comes 11 = .ok (.iload_n 2, 1) := by decide +kernel
theorem dX1_comes_12 : decode cX1_comes 12 = .ok (.invokestatic 53, 3) := by decide +kernel
theorem dX1_comes_15 : decode cX1_comes 15 = .ok (.ifCond .ne 9, 3) := by decide +kernel
theorem dX1_comes_18 : decode cX1_comes 18 = .ok (.aload_n 0, 1) := by decide +kernel
theorem dX1_comes_19 : decode cX1_comes 19 = .ok (.iconst (-1), 1) := by decide +kernel
theorem dX1_comes_20 : decode cX1_comes 20 = .ok (.invokevirtual 38, 3) := by decide +kernel
theorem dX1_comes_23 : decode cX1_comes 23 = .ok (.ireturn, 1) := by decide +kernel
theorem dX1_comes_24 : decode cX1_comes 24 = .ok (.aload_n 0, 1) := by decide +kernel
theorem dX1_comes_25 : decode cX1_comes 25 = .ok (.getfield 16, 3) := by decide +kernel
theorem dX1_comes_28 : decode cX1_comes 28 = .ok (.aload_n 0, 1) := by decide +kernel
theorem dX1_comes_29 : decode cX1_comes 29 = .ok (.getfield 10, 3) := by decide +kernel
theorem dX1_comes_32 : decode cX1_comes 32 = .ok (.invokevirtual 124, 3) := by decide +kernel
theorem dX1_comes_35 : decode cX1_comes 35 = .ok (.aload_n 0, 1) := by decide +kernel
theorem dX1_comes_36 : decode cX1_comes 36 = .ok (.getfield 16, 3) := by decide +kernel
theorem dX1_comes_39 : decode cX1_comes 39 = .ok (.iload_n 1, 1) := by decide +kernel
theorem dX1_comes_40 : decode cX1_comes 40 = .ok (.iload_n 2, 1) := by decide +kernel
theorem dX1_comes_41 : decode cX1_comes 41 = .ok (.invokevirtual 128, 3) := by decide +kernel
theorem dX1_comes_44 : decode cX1_comes 44 = .ok (.ireturn, 1) := by decide +kernel
set_option maxRecDepth 20000 in
theorem ggX1_visits_X0_has : GoodIn wsX1_visits wsX0_has := goodIn_r _ [7, 8, 80, 81, 82, 83, 84, 85, 86, 87] (by decide +kernel) (by decide +kernel)
set_option maxRecDepth 20000 in
theorem gX1_visits_X0_has : GoodIn wsX1_visits (wsV RX1 66 RX0 yX0_has wsX0_has) := goodIn_app (goodIn_of _ (by decide +kernel)) ggX1_visits_X0_has
set_option maxRecDepth 20000 in
theorem ggX1_visits_X1_refuse : GoodIn wsX1_visits wsX1_refuse := goodIn_r _ [13, 14, 68, 69, 70, 71, 72, 73, 74, 75, 76, 77, 78, 79] (by decide +kernel) (by decide +kernel)
set_option maxRecDepth 20000 in
theorem gX1_visits_X1_refuse : GoodIn wsX1_visits (wsV RX1 38 RX1 yX1_refuse wsX1_refuse) := goodIn_app (goodIn_of _ (by decide +kernel)) ggX1_visits_X1_refuse
set_option maxRecDepth 20000 in
theorem ggX1_visits_X1_outside : GoodIn wsX1_visits wsX1_outside := goodIn_r _ [17] (by decide +kernel) (by decide +kernel)
set_option maxRecDepth 20000 in
theorem gX1_visits_X1_outside : GoodIn wsX1_visits (va_wsS RX1 79 yX1_outside wsX1_outside) := goodIn_app (goodIn_of _ (by decide +kernel)) ggX1_visits_X1_outside
set_option maxRecDepth 20000 in
theorem ggX1_visits_X0_becomes : GoodIn wsX1_visits wsX0_becomes := goodIn_r _ [21, 22, 23, 24, 25, 26, 27, 28, 29, 30, 31, 8, 32, 80, 81, 82, 83, 84, 85, 86, 87] (by decide +kernel) (by decide +kernel)
set_option maxRecDepth 20000 in
theorem gX1_visits_X0_becomes : GoodIn wsX1_visits (wsV RX1 124 RX0 yX0_becomes wsX0_becomes) := goodIn_app (goodIn_of _ (by decide +kernel)) ggX1_visits_X0_becomes
set_option maxRecDepth 20000 in
theorem ggX1_visits_X0_visitsIn : GoodIn wsX1_visits wsX0_visitsIn := goodIn_r _ [36, 37, 38, 39, 6, 40, 29, 41, 4, 5, 7, 8, 42, 43, 44, 45, 32, 46, 47, 48, 49, 28, 22, 27, 30, 31, 50, 51, 52, 53, 54, 12, 55, 56, 57, 58, 59, 60, 61, 62, 63, 64, 65, 66, 67, 80, 81, 82, 83, 84, 85, 86, 87] (by decide +kernel) (by decide +kernel)
set_option maxRecDepth 20000 in
theorem gX1_visits_X0_visitsIn : GoodIn wsX1_visits (wsV RX1 131 RX0 yX0_visitsIn wsX0_visitsIn) := goodIn_app (goodIn_of _ (by decide +kernel)) ggX1_visits_X0_visitsIn
theorem dX1_visits_0 : decode cX1_visits 0 = .ok (.aload_n 0, 1) := by decide +kernel
theorem dX1_visits_1 : decode cX1_visits 1 = .ok (.getfield 10, 3) := by decide +kernel
theorem dX1_visits_4 : decode cX1_visits 4 = .ok (.iload_n 1, 1) := by decide +kernel
theorem dX1_visits_5 : decode cX1_visits 5 = .ok (.invokevirtual 66, 3) := by decide +kernel
theorem dX1_visits_8 : decode cX1_visits 8 = .ok (.ifCond .ne 9, 3) := by decide +kernel
theorem dX1_visits_11 : decode cX1_visits 11 = .ok (.aload_n 0, 1) := by decide +kernel
theorem dX1_visits_12 : decode cX1_visits 12 = .ok (.iconst (-1), 1) := by decide +kernel
theorem dX1_visits_13 : decode cX1_visits 13 = .ok (.invokevirtual 38, 3) := by decide +kernel
theorem dX1_visits_16 : decode cX1_visits 16 = .ok (.ireturn, 1) := by decide +kernel
theorem dX1_visits_17 : decode cX1_visits 17 = .ok (.iload_n 2, 1) := by decide +kernel
theorem dX1_visits_18 : decode cX1_visits 18 = .ok (.iconst 0, 1) := by decide +kernel
theorem dX1_visits_19 : decode cX1_visits 19 = .ok (.bipush 60, 2) := by decide +kernel
theorem dX1_visits_21 : decode cX1_visits 21 = .ok (.invokestatic 79, 3) := by decide +kernel
theorem dX1_visits_24 : decode cX1_visits 24 = .ok (.istore_n 3, 1) := by decide +kernel
theorem dX1_visits_25 : decode cX1_visits 25 = .ok (.iload_n 3, 1) := by decide +kernel
theorem dX1_visits_26 : decode cX1_visits 26 = .ok (.ifCond .eq 9, 3) := by decide +kernel
theorem dX1_visits_29 : decode cX1_visits 29 = .ok (.aload_n 0, 1) := by decide +kernel
theorem dX1_visits_30 : decode cX1_visits 30 = .ok (.iload_n 3, 1) := by decide +kernel
theorem dX1_visits_31 : decode cX1_visits 31 = .ok (.invokevirtual 38, 3) := by decide +kernel
theorem dX1_visits_34 : decode cX1_visits 34 = .ok (.ireturn, 1) := by decide +kernel
theorem dX1_visits_35 : decode cX1_visits 35 = .ok (.aload_n 0, 1) := by decide +kernel
theorem dX1_visits_36 : decode cX1_visits 36 = .ok (.getfield 16, 3) := by decide +kernel
theorem dX1_visits_39 : decode cX1_visits 39 = .ok (.aload_n 0, 1) := by decide +kernel
theorem dX1_visits_40 : decode cX1_visits 40 = .ok (.getfield 10, 3) := by decide +kernel
theorem dX1_visits_43 : decode cX1_visits 43 = .ok (.invokevirtual 124, 3) := by decide +kernel
theorem dX1_visits_46 : decode cX1_visits 46 = .ok (.aload_n 0, 1) := by decide +kernel
theorem dX1_visits_47 : decode cX1_visits 47 = .ok (.getfield 16, 3) := by decide +kernel
theorem dX1_visits_50 : decode cX1_visits 50 = .ok (.iload_n 1, 1) := by decide +kernel
theorem dX1_visits_51 : decode cX1_visits 51 = .ok (.iload_n 2, 1) := by decide +kernel
theorem dX1_visits_52 : decode cX1_visits 52 = .ok (.invokevirtual 131, 3) := by decide +kernel
theorem dX1_visits_55 : decode cX1_visits 55 = .ok (.ireturn, 1) := by decide +kernel
set_option maxRecDepth 20000 in
theorem ggX1_stops_X0_has : GoodIn wsX1_stops wsX0_has := goodIn_r _ [7, 8, 70, 71, 72, 73, 74, 75, 76, 77] (by decide +kernel) (by decide +kernel)
set_option maxRecDepth 20000 in
theorem gX1_stops_X0_has : GoodIn wsX1_stops (wsV RX1 66 RX0 yX0_has wsX0_has) := goodIn_app (goodIn_of _ (by decide +kernel)) ggX1_stops_X0_has
set_option maxRecDepth 20000 in
theorem ggX1_stops_X1_refuse : GoodIn wsX1_stops wsX1_refuse := goodIn_r _ [13, 14, 58, 59, 60, 61, 62, 63, 64, 65, 66, 67, 68, 69] (by decide +kernel) (by decide +kernel)
set_option maxRecDepth 20000 in
theorem gX1_stops_X1_refuse : GoodIn wsX1_stops (wsV RX1 38 RX1 yX1_refuse wsX1_refuse) := goodIn_app (goodIn_of _ (by decide +kernel)) ggX1_stops_X1_refuse
set_option maxRecDepth 20000 in
theorem ggX1_stops_X0_becomes : GoodIn wsX1_stops wsX0_becomes := goodIn_r _ [18, 19, 20, 21, 22, 23, 24, 25, 26, 27, 28, 8, 29, 70, 71, 72, 73, 74, 75, 76, 77] (by decide +kernel) (by decide +kernel)
set_option maxRecDepth 20000 in
theorem gX1_stops_X0_becomes : GoodIn wsX1_stops (wsV RX1 124 RX0 yX0_becomes wsX0_becomes) := goodIn_app (goodIn_of _ (by decide +kernel)) ggX1_stops_X0_becomes
set_option maxRecDepth 20000 in
theorem ggX1_stops_X0_placeOf : GoodIn wsX1_stops wsX0_placeOf := goodIn_r _ [33, 26, 34, 4, 5, 6, 7, 8, 70, 71, 72, 73, 74, 75, 76, 77] (by decide +kernel) (by decide +kernel)
set_option maxRecDepth 20000 in
theorem gX1_stops_X0_placeOf : GoodIn wsX1_stops (wsV RX1 109 RX0 yX0_placeOf wsX0_placeOf) := goodIn_app (goodIn_of _ (by decide +kernel)) ggX1_stops_X0_placeOf
set_option maxRecDepth 20000 in
theorem ggX1_stops_X0_wetOf : GoodIn wsX1_stops wsX0_wetOf := goodIn_r _ [38, 25, 39, 12, 40, 70, 71, 72, 73, 74, 75, 76, 77] (by decide +kernel) (by decide +kernel)
set_option maxRecDepth 20000 in
theorem gX1_stops_X0_wetOf : GoodIn wsX1_stops (wsV RX1 63 RX0 yX0_wetOf wsX0_wetOf) := goodIn_app (goodIn_of _ (by decide +kernel)) ggX1_stops_X0_wetOf
set_option maxRecDepth 20000 in
theorem ggX1_stops_X0_goOn : GoodIn wsX1_stops wsX0_goOn := goodIn_r _ [44, 29, 8, 45, 46, 47, 6, 48, 26, 25, 19, 24, 27, 28, 49, 50, 51, 52, 34, 4, 5, 7, 39, 12, 40, 53, 54, 55, 56, 57, 70, 71, 72, 73, 74, 75, 76, 77] (by decide +kernel) (by decide +kernel)
set_option maxRecDepth 20000 in
theorem gX1_stops_X0_goOn : GoodIn wsX1_stops (wsV RX1 118 RX0 yX0_goOn wsX0_goOn) := goodIn_app (goodIn_of _ (by decide +kernel)) ggX1_stops_X0_goOn
theorem dX1_stops_0 : decode cX1_stops 0 = .ok (.aload_n 0, 1) := by decide +kernel
theorem dX1_stops_1 : decode cX1_stops 1 = .ok (.getfield 10, 3) := by decide +kernel
theorem dX1_stops_4 : decode cX1_stops 4 = .ok (.iload_n 1, 1) := by decide +kernel
theorem dX1_stops_5 : decode cX1_stops 5 = .ok (.invokevirtual 66, 3) := by decide +kernel
theorem dX1_stops_8 : decode cX1_stops 8 = .ok (.ifCond .ne 9, 3) := by decide +kernel
theorem dX1_stops_11 : decode cX1_stops 11 = .ok (.aload_n 0, 1) := by decide +kernel
theorem dX1_stops_12 : decode cX1_stops 12 = .ok (.iconst (-1), 1) := by decide +kernel
theorem dX1_stops_13 : decode cX1_stops 13 = .ok (.invokevirtual 38, 3) := by decide +kernel
theorem dX1_stops_16 : decode cX1_stops 16 = .ok (.ireturn, 1) := by decide +kernel
theorem dX1_stops_17 : decode cX1_stops 17 = .ok (.aload_n 0, 1) := by decide +kernel
theorem dX1_stops_18 : decode cX1_stops 18 = .ok (.getfield 16, 3) := by decide +kernel
theorem dX1_stops_21 : decode cX1_stops 21 = .ok (.aload_n 0, 1) := by decide +kernel
theorem dX1_stops_22 : decode cX1_stops 22 = .ok (.getfield 10, 3) := by decide +kernel
theorem dX1_stops_25 : decode cX1_stops 25 = .ok (.invokevirtual 124, 3) := by decide +kernel
theorem dX1_stops_28 : decode cX1_stops 28 = .ok (.iconst 0, 1) := by decide +kernel
theorem dX1_stops_29 : decode cX1_stops 29 = .ok (.istore_n 2, 1) := by decide +kernel
theorem dX1_stops_30 : decode cX1_stops 30 = .ok (.iload_n 2, 1) := by decide +kernel
theorem dX1_stops_31 : decode cX1_stops 31 = .ok (.bipush 60, 2) := by decide +kernel
theorem dX1_stops_33 : decode cX1_stops 33 = .ok (.if_icmp .gt 38, 3) := by decide +kernel
theorem dX1_stops_36 : decode cX1_stops 36 = .ok (.aload_n 0, 1) := by decide +kernel
theorem dX1_stops_37 : decode cX1_stops 37 = .ok (.getfield 16, 3) := by decide +kernel
theorem dX1_stops_40 : decode cX1_stops 40 = .ok (.aload_n 0, 1) := by decide +kernel
theorem dX1_stops_41 : decode cX1_stops 41 = .ok (.getfield 16, 3) := by decide +kernel
theorem dX1_stops_44 : decode cX1_stops 44 = .ok (.iload_n 1, 1) := by decide +kernel
theorem dX1_stops_45 : decode cX1_stops 45 = .ok (.invokevirtual 109, 3) := by decide +kernel
theorem dX1_stops_48 : decode cX1_stops 48 = .ok (.invokevirtual 63, 3) := by decide +kernel
theorem dX1_stops_51 : decode cX1_stops 51 = .ok (.ifCond .ne 5, 3) := by decide +kernel
theorem dX1_stops_54 : decode cX1_stops 54 = .ok (.iload_n 2, 1) := by decide +kernel
theorem dX1_stops_55 : decode cX1_stops 55 = .ok (.ireturn, 1) := by decide +kernel
theorem dX1_stops_56 : decode cX1_stops 56 = .ok (.aload_n 0, 1) := by decide +kernel
theorem dX1_stops_57 : decode cX1_stops 57 = .ok (.getfield 16, 3) := by decide +kernel
theorem dX1_stops_60 : decode cX1_stops 60 = .ok (.iconst 1, 1) := by decide +kernel
theorem dX1_stops_61 : decode cX1_stops 61 = .ok (.iconst 0, 1) := by decide +kernel
theorem dX1_stops_62 : decode cX1_stops 62 = .ok (.invokevirtual 118, 3) := by decide +kernel
theorem dX1_stops_65 : decode cX1_stops 65 = .ok (.iinc 2 1, 3) := by decide +kernel
theorem dX1_stops_68 : decode cX1_stops 68 = .ok (.goto (-38), 3) := by decide +kernel
theorem dX1_stops_71 : decode cX1_stops 71 = .ok (.bipush (-9), 2) := by decide +kernel
theorem dX1_stops_73 : decode cX1_stops 73 = .ok (.ireturn, 1) := by decide +kernel
set_option maxRecDepth 20000 in
theorem ggX1_meets_X1_areTwo : GoodIn wsX1_meets wsX1_areTwo := goodIn_r _ [7, 2, 8, 9, 10, 11, 12, 13, 58, 59, 60, 61, 62, 63, 64, 65, 66, 67, 68, 69, 70, 71, 72, 73, 74, 75, 76, 77] (by decide +kernel) (by decide +kernel)
set_option maxRecDepth 20000 in
theorem gX1_meets_X1_areTwo : GoodIn wsX1_meets (wsV RX1 134 RX1 yX1_areTwo wsX1_areTwo) := goodIn_app (goodIn_of _ (by decide +kernel)) ggX1_meets_X1_areTwo
set_option maxRecDepth 20000 in
theorem ggX1_meets_X1_refuse : GoodIn wsX1_meets wsX1_refuse := goodIn_r _ [17, 18, 58, 59, 60, 61, 62, 63, 64, 65, 66, 67, 68, 69] (by decide +kernel) (by decide +kernel)
set_option maxRecDepth 20000 in
theorem gX1_meets_X1_refuse : GoodIn wsX1_meets (wsV RX1 38 RX1 yX1_refuse wsX1_refuse) := goodIn_app (goodIn_of _ (by decide +kernel)) ggX1_meets_X1_refuse
set_option maxRecDepth 20000 in
theorem ggX1_meets_X0_becomes : GoodIn wsX1_meets wsX0_becomes := goodIn_r _ [22, 23, 24, 25, 26, 27, 28, 29, 30, 31, 32, 13, 33, 70, 71, 72, 73, 74, 75, 76, 77] (by decide +kernel) (by decide +kernel)
set_option maxRecDepth 20000 in
theorem gX1_meets_X0_becomes : GoodIn wsX1_meets (wsV RX1 124 RX0 yX0_becomes wsX0_becomes) := goodIn_app (goodIn_of _ (by decide +kernel)) ggX1_meets_X0_becomes
set_option maxRecDepth 20000 in
theorem ggX1_meets_X0_placeOf : GoodIn wsX1_meets wsX0_placeOf := goodIn_r _ [37, 30, 38, 9, 10, 11, 12, 13, 70, 71, 72, 73, 74, 75, 76, 77] (by decide +kernel) (by decide +kernel)
set_option maxRecDepth 20000 in
theorem gX1_meets_X0_placeOf : GoodIn wsX1_meets (wsV RX1 109 RX0 yX0_placeOf wsX0_placeOf) := goodIn_app (goodIn_of _ (by decide +kernel)) ggX1_meets_X0_placeOf
set_option maxRecDepth 20000 in
theorem ggX1_meets_X0_goOn : GoodIn wsX1_meets wsX0_goOn := goodIn_r _ [42, 33, 13, 43, 44, 45, 11, 46, 30, 29, 23, 28, 31, 32, 47, 48, 49, 50, 38, 9, 10, 12, 51, 6, 52, 53, 54, 55, 56, 57, 70, 71, 72, 73, 74, 75, 76, 77] (by decide +kernel) (by decide +kernel)
set_option maxRecDepth 20000 in
theorem gX1_meets_X0_goOn : GoodIn wsX1_meets (wsV RX1 118 RX0 yX0_goOn wsX0_goOn) := goodIn_app (goodIn_of _ (by decide +kernel)) ggX1_meets_X0_goOn
theorem dX1_meets_0 : decode cX1_meets 0 = .ok (.aload_n 0, 1) := by decide +kernel
theorem dX1_meets_1 : decode cX1_meets 1 = .ok (.iload_n 1, 1) := by decide +kernel
theorem dX1_meets_2 : decode cX1_meets 2 = .ok (.iload_n 2, 1) := by decide +kernel
theorem dX1_meets_3 : decode cX1_meets 3 = .ok (.invokevirtual 134, 3) := by decide +kernel
theorem dX1_meets_6 : decode cX1_meets 6 = .ok (.ifCond .ne 9, 3) := by decide +kernel
theorem dX1_meets_9 : decode cX1_meets 9 = .ok (.aload_n 0, 1) := by decide +kernel
theorem dX1_meets_10 : decode cX1_meets 10 = .ok (.iconst (-1), 1) := by decide +kernel
theorem dX1_meets_11 : decode cX1_meets 11 = .ok (.invokevirtual 38, 3) := by decide +kernel
theorem dX1_meets_14 : decode cX1_meets 14 = .ok (.ireturn, 1) := by decide +kernel
theorem dX1_meets_15 : decode cX1_meets 15 = .ok (.aload_n 0, 1) := by decide +kernel
theorem dX1_meets_16 : decode cX1_meets 16 = .ok (.getfield 16, 3) := by decide +kernel
theorem dX1_meets_19 : decode cX1_meets 19 = .ok (.aload_n 0, 1) := by decide +kernel
theorem dX1_meets_20 : decode cX1_meets 20 = .ok (.getfield 10, 3) := by decide +kernel
theorem dX1_meets_23 : decode cX1_meets 23 = .ok (.invokevirtual 124, 3) := by decide +kernel
theorem dX1_meets_26 : decode cX1_meets 26 = .ok (.iconst 0, 1) := by decide +kernel
theorem dX1_meets_27 : decode cX1_meets 27 = .ok (.istore_n 3, 1) := by decide +kernel
theorem dX1_meets_28 : decode cX1_meets 28 = .ok (.iload_n 3, 1) := by decide +kernel
theorem dX1_meets_29 : decode cX1_meets 29 = .ok (.bipush 60, 2) := by decide +kernel
theorem dX1_meets_31 : decode cX1_meets 31 = .ok (.if_icmp .gt 39, 3) := by decide +kernel
theorem dX1_meets_34 : decode cX1_meets 34 = .ok (.aload_n 0, 1) := by decide +kernel
theorem dX1_meets_35 : decode cX1_meets 35 = .ok (.getfield 16, 3) := by decide +kernel
theorem dX1_meets_38 : decode cX1_meets 38 = .ok (.iload_n 1, 1) := by decide +kernel
theorem dX1_meets_39 : decode cX1_meets 39 = .ok (.invokevirtual 109, 3) := by decide +kernel
theorem dX1_meets_42 : decode cX1_meets 42 = .ok (.aload_n 0, 1) := by decide +kernel
theorem dX1_meets_43 : decode cX1_meets 43 = .ok (.getfield 16, 3) := by decide +kernel
theorem dX1_meets_46 : decode cX1_meets 46 = .ok (.iload_n 2, 1) := by decide +kernel
theorem dX1_meets_47 : decode cX1_meets 47 = .ok (.invokevirtual 109, 3) := by decide +kernel
theorem dX1_meets_50 : decode cX1_meets 50 = .ok (.if_icmp .ne 5, 3) := by decide +kernel
theorem dX1_meets_53 : decode cX1_meets 53 = .ok (.iload_n 3, 1) := by decide +kernel
theorem dX1_meets_54 : decode cX1_meets 54 = .ok (.ireturn, 1) := by decide +kernel
theorem dX1_meets_55 : decode cX1_meets 55 = .ok (.aload_n 0, 1) := by decide +kernel
theorem dX1_meets_56 : decode cX1_meets 56 = .ok (.getfield 16, 3) := by decide +kernel
theorem dX1_meets_59 : decode cX1_meets 59 = .ok (.iconst 1, 1) := by decide +kernel
theorem dX1_meets_60 : decode cX1_meets 60 = .ok (.iconst 0, 1) := by decide +kernel
theorem dX1_meets_61 : decode cX1_meets 61 = .ok (.invokevirtual 118, 3) := by decide +kernel
theorem dX1_meets_64 : decode cX1_meets 64 = .ok (.iinc 3 1, 3) := by decide +kernel
theorem dX1_meets_67 : decode cX1_meets 67 = .ok (.goto (-39), 3) := by decide +kernel
theorem dX1_meets_70 : decode cX1_meets 70 = .ok (.bipush (-9), 2) := by decide +kernel
theorem dX1_meets_72 : decode cX1_meets 72 = .ok (.ireturn, 1) := by decide +kernel
set_option maxRecDepth 20000 in
theorem ggX1_round_X0_has : GoodIn wsX1_round wsX0_has := goodIn_r _ [7, 8, 70, 71, 72, 73, 74, 75, 76, 77] (by decide +kernel) (by decide +kernel)
set_option maxRecDepth 20000 in
theorem gX1_round_X0_has : GoodIn wsX1_round (wsV RX1 66 RX0 yX0_has wsX0_has) := goodIn_app (goodIn_of _ (by decide +kernel)) ggX1_round_X0_has
set_option maxRecDepth 20000 in
theorem ggX1_round_X1_refuse : GoodIn wsX1_round wsX1_refuse := goodIn_r _ [13, 14, 58, 59, 60, 61, 62, 63, 64, 65, 66, 67, 68, 69] (by decide +kernel) (by decide +kernel)
set_option maxRecDepth 20000 in
theorem gX1_round_X1_refuse : GoodIn wsX1_round (wsV RX1 38 RX1 yX1_refuse wsX1_refuse) := goodIn_app (goodIn_of _ (by decide +kernel)) ggX1_round_X1_refuse
set_option maxRecDepth 20000 in
theorem ggX1_round_X0_becomes : GoodIn wsX1_round wsX0_becomes := goodIn_r _ [18, 19, 20, 21, 22, 23, 24, 25, 26, 27, 28, 8, 29, 70, 71, 72, 73, 74, 75, 76, 77] (by decide +kernel) (by decide +kernel)
set_option maxRecDepth 20000 in
theorem gX1_round_X0_becomes : GoodIn wsX1_round (wsV RX1 124 RX0 yX0_becomes wsX0_becomes) := goodIn_app (goodIn_of _ (by decide +kernel)) ggX1_round_X0_becomes
set_option maxRecDepth 20000 in
theorem ggX1_round_X0_goOn : GoodIn wsX1_round wsX0_goOn := goodIn_r _ [33, 29, 8, 34, 35, 36, 6, 37, 26, 25, 19, 24, 27, 28, 38, 39, 40, 41, 42, 4, 5, 7, 43, 12, 44, 45, 46, 47, 48, 49, 70, 71, 72, 73, 74, 75, 76, 77] (by decide +kernel) (by decide +kernel)
set_option maxRecDepth 20000 in
theorem gX1_round_X0_goOn : GoodIn wsX1_round (wsV RX1 118 RX0 yX0_goOn wsX0_goOn) := goodIn_app (goodIn_of _ (by decide +kernel)) ggX1_round_X0_goOn
set_option maxRecDepth 20000 in
theorem ggX1_round_X0_placeOf : GoodIn wsX1_round wsX0_placeOf := goodIn_r _ [53, 26, 42, 4, 5, 6, 7, 8, 70, 71, 72, 73, 74, 75, 76, 77] (by decide +kernel) (by decide +kernel)
set_option maxRecDepth 20000 in
theorem gX1_round_X0_placeOf : GoodIn wsX1_round (wsV RX1 109 RX0 yX0_placeOf wsX0_placeOf) := goodIn_app (goodIn_of _ (by decide +kernel)) ggX1_round_X0_placeOf
set_option maxRecDepth 20000 in
theorem ggX1_round_X0_headingOf : GoodIn wsX1_round wsX0_headingOf := goodIn_r _ [57, 27, 42, 4, 5, 6, 7, 8, 70, 71, 72, 73, 74, 75, 76, 77] (by decide +kernel) (by decide +kernel)
set_option maxRecDepth 20000 in
theorem gX1_round_X0_headingOf : GoodIn wsX1_round (wsV RX1 103 RX0 yX0_headingOf wsX0_headingOf) := goodIn_app (goodIn_of _ (by decide +kernel)) ggX1_round_X0_headingOf
theorem dX1_round_0 : decode cX1_round 0 = .ok (.aload_n 0, 1) := by decide +kernel
theorem dX1_round_1 : decode cX1_round 1 = .ok (.getfield 10, 3) := by decide +kernel
theorem dX1_round_4 : decode cX1_round 4 = .ok (.iload_n 1, 1) := by decide +kernel
theorem dX1_round_5 : decode cX1_round 5 = .ok (.invokevirtual 66, 3) := by decide +kernel
theorem dX1_round_8 : decode cX1_round 8 = .ok (.ifCond .ne 9, 3) := by decide +kernel
theorem dX1_round_11 : decode cX1_round 11 = .ok (.aload_n 0, 1) := by decide +kernel
theorem dX1_round_12 : decode cX1_round 12 = .ok (.iconst (-1), 1) := by decide +kernel
theorem dX1_round_13 : decode cX1_round 13 = .ok (.invokevirtual 38, 3) := by decide +kernel
theorem dX1_round_16 : decode cX1_round 16 = .ok (.ireturn, 1) := by decide +kernel
theorem dX1_round_17 : decode cX1_round 17 = .ok (.aload_n 0, 1) := by decide +kernel
theorem dX1_round_18 : decode cX1_round 18 = .ok (.getfield 16, 3) := by decide +kernel
theorem dX1_round_21 : decode cX1_round 21 = .ok (.aload_n 0, 1) := by decide +kernel
theorem dX1_round_22 : decode cX1_round 22 = .ok (.getfield 10, 3) := by decide +kernel
theorem dX1_round_25 : decode cX1_round 25 = .ok (.invokevirtual 124, 3) := by decide +kernel
theorem dX1_round_28 : decode cX1_round 28 = .ok (.iconst 1, 1) := by decide +kernel
theorem dX1_round_29 : decode cX1_round 29 = .ok (.istore_n 2, 1) := by decide +kernel
theorem dX1_round_30 : decode cX1_round 30 = .ok (.iload_n 2, 1) := by decide +kernel
theorem dX1_round_31 : decode cX1_round 31 = .ok (.bipush 60, 2) := by decide +kernel
theorem dX1_round_33 : decode cX1_round 33 = .ok (.if_icmp .gt 68, 3) := by decide +kernel
theorem dX1_round_36 : decode cX1_round 36 = .ok (.aload_n 0, 1) := by decide +kernel
theorem dX1_round_37 : decode cX1_round 37 = .ok (.getfield 16, 3) := by decide +kernel
theorem dX1_round_40 : decode cX1_round 40 = .ok (.iconst 1, 1) := by decide +kernel
theorem dX1_round_41 : decode cX1_round 41 = .ok (.iconst 0, 1) := by decide +kernel
theorem dX1_round_42 : decode cX1_round 42 = .ok (.invokevirtual 118, 3) := by decide +kernel
theorem dX1_round_45 : decode cX1_round 45 = .ok (.aload_n 0, 1) := by decide +kernel
theorem dX1_round_46 : decode cX1_round 46 = .ok (.getfield 16, 3) := by decide +kernel
theorem dX1_round_49 : decode cX1_round 49 = .ok (.iload_n 1, 1) := by decide +kernel
theorem dX1_round_50 : decode cX1_round 50 = .ok (.invokevirtual 109, 3) := by decide +kernel
theorem dX1_round_53 : decode cX1_round 53 = .ok (.aload_n 0, 1) := by decide +kernel
theorem dX1_round_54 : decode cX1_round 54 = .ok (.getfield 10, 3) := by decide +kernel
theorem dX1_round_57 : decode cX1_round 57 = .ok (.iload_n 1, 1) := by decide +kernel
theorem dX1_round_58 : decode cX1_round 58 = .ok (.invokevirtual 109, 3) := by decide +kernel
theorem dX1_round_61 : decode cX1_round 61 = .ok (.if_icmp .ne 7, 3) := by decide +kernel
theorem dX1_round_64 : decode cX1_round 64 = .ok (.iconst 1, 1) := by decide +kernel
theorem dX1_round_65 : decode cX1_round 65 = .ok (.goto 4, 3) := by decide +kernel
theorem dX1_round_68 : decode cX1_round 68 = .ok (.iconst 0, 1) := by decide +kernel
theorem dX1_round_69 : decode cX1_round 69 = .ok (.istore_n 3, 1) := by decide +kernel
theorem dX1_round_70 : decode cX1_round 70 = .ok (.iload_n 3, 1) := by decide +kernel
theorem dX1_round_71 : decode cX1_round 71 = .ok (.ifCond .eq 24, 3) := by decide +kernel
theorem dX1_round_74 : decode cX1_round 74 = .ok (.aload_n 0, 1) := by decide +kernel
theorem dX1_round_75 : decode cX1_round 75 = .ok (.getfield 16, 3) := by decide +kernel
theorem dX1_round_78 : decode cX1_round 78 = .ok (.iload_n 1, 1) := by decide +kernel
theorem dX1_round_79 : decode cX1_round 79 = .ok (.invokevirtual 103, 3) := by decide +kernel
theorem dX1_round_82 : decode cX1_round 82 = .ok (.aload_n 0, 1) := by decide +kernel
theorem dX1_round_83 : decode cX1_round 83 = .ok (.getfield 10, 3) := by decide +kernel
theorem dX1_round_86 : decode cX1_round 86 = .ok (.iload_n 1, 1) := by decide +kernel
theorem dX1_round_87 : decode cX1_round 87 = .ok (.invokevirtual 103, 3) := by decide +kernel
theorem dX1_round_90 : decode cX1_round 90 = .ok (.if_icmp .ne 5, 3) := by decide +kernel
theorem dX1_round_93 : decode cX1_round 93 = .ok (.iload_n 2, 1) := by decide +kernel
theorem dX1_round_94 : decode cX1_round 94 = .ok (.ireturn, 1) := by decide +kernel
theorem dX1_round_95 : decode cX1_round 95 = .ok (.iinc 2 1, 3) := by decide +kernel
theorem dX1_round_98 : decode cX1_round 98 = .ok (.goto (-68), 3) := by decide +kernel
theorem dX1_round_101 : decode cX1_round 101 = .ok (.bipush (-9), 2) := by decide +kernel
theorem dX1_round_103 : decode cX1_round 103 = .ok (.ireturn, 1) := by decide +kernel
set_option maxRecDepth 20000 in
theorem ggX1_way_X1_isNode : GoodIn wsX1_way wsX1_isNode := goodIn_r _ [4] (by decide +kernel) (by decide +kernel)
set_option maxRecDepth 20000 in
theorem gX1_way_X1_isNode : GoodIn wsX1_way (va_wsS RX1 53 yX1_isNode wsX1_isNode) := goodIn_app (goodIn_of _ (by decide +kernel)) ggX1_way_X1_isNode
set_option maxRecDepth 20000 in
theorem ggX1_way_X1_refuse : GoodIn wsX1_way wsX1_refuse := goodIn_r _ [8, 9, 41, 42, 43, 44, 45, 46, 47, 48, 49, 50, 51, 52] (by decide +kernel) (by decide +kernel)
set_option maxRecDepth 20000 in
theorem gX1_way_X1_refuse : GoodIn wsX1_way (wsV RX1 38 RX1 yX1_refuse wsX1_refuse) := goodIn_app (goodIn_of _ (by decide +kernel)) ggX1_way_X1_refuse
set_option maxRecDepth 20000 in
theorem ggX1_way_X1_leastCost : GoodIn wsX1_way wsX1_leastCost := goodIn_r _ [13, 14, 15, 16, 17, 18, 19, 20, 21, 22, 3, 23, 24, 25, 26, 27, 28, 29, 2, 4, 30, 31, 32, 33, 34, 35, 36, 37, 38, 39, 40, 41, 42, 43, 44, 45, 46, 47, 48, 49, 50, 51, 52, 53, 54, 55, 56, 57, 58, 59, 60] (by decide +kernel) (by decide +kernel)
set_option maxRecDepth 20000 in
theorem gX1_way_X1_leastCost : GoodIn wsX1_way (wsV RX1 138 RX1 yX1_leastCost wsX1_leastCost) := goodIn_app (goodIn_of _ (by decide +kernel)) ggX1_way_X1_leastCost
theorem dX1_way_0 : decode cX1_way 0 = .ok (.iload_n 1, 1) := by decide +kernel
theorem dX1_way_1 : decode cX1_way 1 = .ok (.invokestatic 53, 3) := by decide +kernel
theorem dX1_way_4 : decode cX1_way 4 = .ok (.ifCond .eq 10, 3) := by decide +kernel
theorem dX1_way_7 : decode cX1_way 7 = .ok (.iload_n 2, 1) := by decide +kernel
theorem dX1_way_8 : decode cX1_way 8 = .ok (.invokestatic 53, 3) := by decide +kernel
theorem dX1_way_11 : decode cX1_way 11 = .ok (.ifCond .ne 9, 3) := by decide +kernel
theorem dX1_way_14 : decode cX1_way 14 = .ok (.aload_n 0, 1) := by decide +kernel
theorem dX1_way_15 : decode cX1_way 15 = .ok (.iconst (-1), 1) := by decide +kernel
theorem dX1_way_16 : decode cX1_way 16 = .ok (.invokevirtual 38, 3) := by decide +kernel
theorem dX1_way_19 : decode cX1_way 19 = .ok (.ireturn, 1) := by decide +kernel
theorem dX1_way_20 : decode cX1_way 20 = .ok (.iload_n 3, 1) := by decide +kernel
theorem dX1_way_21 : decode cX1_way 21 = .ok (.ifCond .lt 8, 3) := by decide +kernel
theorem dX1_way_24 : decode cX1_way 24 = .ok (.iload_n 3, 1) := by decide +kernel
theorem dX1_way_25 : decode cX1_way 25 = .ok (.iconst 1, 1) := by decide +kernel
theorem dX1_way_26 : decode cX1_way 26 = .ok (.if_icmp .le 10, 3) := by decide +kernel
theorem dX1_way_29 : decode cX1_way 29 = .ok (.aload_n 0, 1) := by decide +kernel
theorem dX1_way_30 : decode cX1_way 30 = .ok (.bipush (-2), 2) := by decide +kernel
theorem dX1_way_32 : decode cX1_way 32 = .ok (.invokevirtual 38, 3) := by decide +kernel
theorem dX1_way_35 : decode cX1_way 35 = .ok (.ireturn, 1) := by decide +kernel
theorem dX1_way_36 : decode cX1_way 36 = .ok (.iload_n 3, 1) := by decide +kernel
theorem dX1_way_37 : decode cX1_way 37 = .ok (.ifCond .ne 16, 3) := by decide +kernel
theorem dX1_way_40 : decode cX1_way 40 = .ok (.aload_n 0, 1) := by decide +kernel
theorem dX1_way_41 : decode cX1_way 41 = .ok (.iload_n 1, 1) := by decide +kernel
theorem dX1_way_42 : decode cX1_way 42 = .ok (.iload_n 2, 1) := by decide +kernel
theorem dX1_way_43 : decode cX1_way 43 = .ok (.iconst 1, 1) := by decide +kernel
theorem dX1_way_44 : decode cX1_way 44 = .ok (.sipush 1000, 3) := by decide +kernel
theorem dX1_way_47 : decode cX1_way 47 = .ok (.invokevirtual 138, 3) := by decide +kernel
theorem dX1_way_50 : decode cX1_way 50 = .ok (.goto 11, 3) := by decide +kernel
theorem dX1_way_53 : decode cX1_way 53 = .ok (.aload_n 0, 1) := by decide +kernel
theorem dX1_way_54 : decode cX1_way 54 = .ok (.iload_n 1, 1) := by decide +kernel
theorem dX1_way_55 : decode cX1_way 55 = .ok (.iload_n 2, 1) := by decide +kernel
theorem dX1_way_56 : decode cX1_way 56 = .ok (.iconst 0, 1) := by decide +kernel
theorem dX1_way_57 : decode cX1_way 57 = .ok (.iconst 1, 1) := by decide +kernel
theorem dX1_way_58 : decode cX1_way 58 = .ok (.invokevirtual 138, 3) := by decide +kernel
theorem dX1_way_61 : decode cX1_way 61 = .ok (.istore 4, 2) := by decide +kernel
theorem dX1_way_63 : decode cX1_way 63 = .ok (.iload 4, 2) := by decide +kernel
theorem dX1_way_65 : decode cX1_way 65 = .ok (.sipush 1000, 3) := by decide +kernel
theorem dX1_way_68 : decode cX1_way 68 = .ok (.if_icmp .ge 8, 3) := by decide +kernel
theorem dX1_way_71 : decode cX1_way 71 = .ok (.iload 4, 2) := by decide +kernel
theorem dX1_way_73 : decode cX1_way 73 = .ok (.goto 5, 3) := by decide +kernel
theorem dX1_way_76 : decode cX1_way 76 = .ok (.bipush (-9), 2) := by decide +kernel
theorem dX1_way_78 : decode cX1_way 78 = .ok (.ireturn, 1) := by decide +kernel
set_option maxRecDepth 20000 in
theorem ggX1_begin_X0_has : GoodIn wsX1_begin wsX0_has := goodIn_r _ [7, 8, 84, 85, 86, 87, 88, 89, 90, 91] (by decide +kernel) (by decide +kernel)
set_option maxRecDepth 20000 in
theorem gX1_begin_X0_has : GoodIn wsX1_begin (wsV RX1 66 RX0 yX0_has wsX0_has) := goodIn_app (goodIn_of _ (by decide +kernel)) ggX1_begin_X0_has
set_option maxRecDepth 20000 in
theorem ggX1_begin_X1_refuse : GoodIn wsX1_begin wsX1_refuse := goodIn_r _ [13, 14, 72, 73, 74, 75, 76, 77, 78, 79, 80, 81, 82, 83] (by decide +kernel) (by decide +kernel)
set_option maxRecDepth 20000 in
theorem gX1_begin_X1_refuse : GoodIn wsX1_begin (wsV RX1 38 RX1 yX1_refuse wsX1_refuse) := goodIn_app (goodIn_of _ (by decide +kernel)) ggX1_begin_X1_refuse
set_option maxRecDepth 20000 in
theorem ggX1_begin_X1_outside : GoodIn wsX1_begin wsX1_outside := goodIn_r _ [17] (by decide +kernel) (by decide +kernel)
set_option maxRecDepth 20000 in
theorem gX1_begin_X1_outside : GoodIn wsX1_begin (va_wsS RX1 79 yX1_outside wsX1_outside) := goodIn_app (goodIn_of _ (by decide +kernel)) ggX1_begin_X1_outside
set_option maxRecDepth 20000 in
theorem ggX1_begin_X0_becomes : GoodIn wsX1_begin wsX0_becomes := goodIn_r _ [21, 22, 23, 24, 25, 26, 27, 28, 29, 30, 31, 8, 32, 84, 85, 86, 87, 88, 89, 90, 91] (by decide +kernel) (by decide +kernel)
set_option maxRecDepth 20000 in
theorem gX1_begin_X0_becomes : GoodIn wsX1_begin (wsV RX1 124 RX0 yX0_becomes wsX0_becomes) := goodIn_app (goodIn_of _ (by decide +kernel)) ggX1_begin_X0_becomes
set_option maxRecDepth 20000 in
theorem ggX1_begin_X0_putPlace : GoodIn wsX1_begin wsX0_putPlace := goodIn_r _ [36, 29, 37, 4, 5, 6, 7, 8, 84, 85, 86, 87, 88, 89, 90, 91] (by decide +kernel) (by decide +kernel)
set_option maxRecDepth 20000 in
theorem gX1_begin_X0_putPlace : GoodIn wsX1_begin (wsV RX1 112 RX0 yX0_putPlace wsX0_putPlace) := goodIn_app (goodIn_of _ (by decide +kernel)) ggX1_begin_X0_putPlace
set_option maxRecDepth 20000 in
theorem ggX1_begin_X0_visitsIn : GoodIn wsX1_begin wsX0_visitsIn := goodIn_r _ [41, 42, 43, 44, 6, 45, 29, 37, 4, 5, 7, 8, 46, 47, 48, 49, 32, 50, 51, 52, 53, 28, 22, 27, 30, 31, 54, 55, 56, 57, 58, 12, 59, 60, 61, 62, 63, 64, 65, 66, 67, 68, 69, 70, 71, 84, 85, 86, 87, 88, 89, 90, 91] (by decide +kernel) (by decide +kernel)
set_option maxRecDepth 20000 in
theorem gX1_begin_X0_visitsIn : GoodIn wsX1_begin (wsV RX1 131 RX0 yX0_visitsIn wsX0_visitsIn) := goodIn_app (goodIn_of _ (by decide +kernel)) ggX1_begin_X0_visitsIn
theorem dX1_begin_0 : decode cX1_begin 0 = .ok (.aload_n 0, 1) := by decide +kernel
theorem dX1_begin_1 : decode cX1_begin 1 = .ok (.getfield 10, 3) := by decide +kernel
theorem dX1_begin_4 : decode cX1_begin 4 = .ok (.iload_n 1, 1) := by decide +kernel
theorem dX1_begin_5 : decode cX1_begin 5 = .ok (.invokevirtual 66, 3) := by decide +kernel
theorem dX1_begin_8 : decode cX1_begin 8 = .ok (.ifCond .ne 9, 3) := by decide +kernel
theorem dX1_begin_11 : decode cX1_begin 11 = .ok (.aload_n 0, 1) := by decide +kernel
theorem dX1_begin_12 : decode cX1_begin 12 = .ok (.iconst (-1), 1) := by decide +kernel
theorem dX1_begin_13 : decode cX1_begin 13 = .ok (.invokevirtual 38, 3) := by decide +kernel
theorem dX1_begin_16 : decode cX1_begin 16 = .ok (.ireturn, 1) := by decide +kernel
theorem dX1_begin_17 : decode cX1_begin 17 = .ok (.iload_n 2, 1) := by decide +kernel
theorem dX1_begin_18 : decode cX1_begin 18 = .ok (.iconst 0, 1) := by decide +kernel
theorem dX1_begin_19 : decode cX1_begin 19 = .ok (.bipush 30, 2) := by decide +kernel
theorem dX1_begin_21 : decode cX1_begin 21 = .ok (.invokestatic 79, 3) := by decide +kernel
theorem dX1_begin_24 : decode cX1_begin 24 = .ok (.istore 4, 2) := by decide +kernel
theorem dX1_begin_26 : decode cX1_begin 26 = .ok (.iload 4, 2) := by decide +kernel
theorem dX1_begin_28 : decode cX1_begin 28 = .ok (.ifCond .eq 10, 3) := by decide +kernel
theorem dX1_begin_31 : decode cX1_begin 31 = .ok (.aload_n 0, 1) := by decide +kernel
theorem dX1_begin_32 : decode cX1_begin 32 = .ok (.iload 4, 2) := by decide +kernel
theorem dX1_begin_34 : decode cX1_begin 34 = .ok (.invokevirtual 38, 3) := by decide +kernel
theorem dX1_begin_37 : decode cX1_begin 37 = .ok (.ireturn, 1) := by decide +kernel
theorem dX1_begin_38 : decode cX1_begin 38 = .ok (.iload_n 3, 1) := by decide +kernel
theorem dX1_begin_39 : decode cX1_begin 39 = .ok (.ifCond .lt 8, 3) := by decide +kernel
theorem dX1_begin_42 : decode cX1_begin 42 = .ok (.iload_n 3, 1) := by decide +kernel
theorem dX1_begin_43 : decode cX1_begin 43 = .ok (.iconst 1, 1) := by decide +kernel
theorem dX1_begin_44 : decode cX1_begin 44 = .ok (.if_icmp .le 10, 3) := by decide +kernel
theorem dX1_begin_47 : decode cX1_begin 47 = .ok (.aload_n 0, 1) := by decide +kernel
theorem dX1_begin_48 : decode cX1_begin 48 = .ok (.bipush (-2), 2) := by decide +kernel
theorem dX1_begin_50 : decode cX1_begin 50 = .ok (.invokevirtual 38, 3) := by decide +kernel
theorem dX1_begin_53 : decode cX1_begin 53 = .ok (.ireturn, 1) := by decide +kernel
theorem dX1_begin_54 : decode cX1_begin 54 = .ok (.iconst 0, 1) := by decide +kernel
theorem dX1_begin_55 : decode cX1_begin 55 = .ok (.istore 5, 2) := by decide +kernel
theorem dX1_begin_57 : decode cX1_begin 57 = .ok (.iconst 0, 1) := by decide +kernel
theorem dX1_begin_58 : decode cX1_begin 58 = .ok (.istore 6, 2) := by decide +kernel
theorem dX1_begin_60 : decode cX1_begin 60 = .ok (.iconst 0, 1) := by decide +kernel
theorem dX1_begin_61 : decode cX1_begin 61 = .ok (.istore 7, 2) := by decide +kernel
theorem dX1_begin_63 : decode cX1_begin 63 = .ok (.iload 7, 2) := by decide +kernel
theorem dX1_begin_65 : decode cX1_begin 65 = .ok (.bipush 30, 2) := by decide +kernel
theorem dX1_begin_67 : decode cX1_begin 67 = .ok (.if_icmp .ge 56, 3) := by decide +kernel
theorem dX1_begin_70 : decode cX1_begin 70 = .ok (.aload_n 0, 1) := by decide +kernel
theorem dX1_begin_71 : decode cX1_begin 71 = .ok (.getfield 16, 3) := by decide +kernel
theorem dX1_begin_74 : decode cX1_begin 74 = .ok (.aload_n 0, 1) := by decide +kernel
theorem dX1_begin_75 : decode cX1_begin 75 = .ok (.getfield 10, 3) := by decide +kernel
theorem dX1_begin_78 : decode cX1_begin 78 = .ok (.invokevirtual 124, 3) := by decide +kernel
theorem dX1_begin_81 : decode cX1_begin 81 = .ok (.aload_n 0, 1) := by decide +kernel
theorem dX1_begin_82 : decode cX1_begin 82 = .ok (.getfield 16, 3) := by decide +kernel
theorem dX1_begin_85 : decode cX1_begin 85 = .ok (.iload_n 1, 1) := by decide +kernel
theorem dX1_begin_86 : decode cX1_begin 86 = .ok (.iload 7, 2) := by decide +kernel
theorem dX1_begin_88 : decode cX1_begin 88 = .ok (.invokevirtual 112, 3) := by decide +kernel
theorem dX1_begin_91 : decode cX1_begin 91 = .ok (.aload_n 0, 1) := by decide +kernel
theorem dX1_begin_92 : decode cX1_begin 92 = .ok (.getfield 16, 3) := by decide +kernel
theorem dX1_begin_95 : decode cX1_begin 95 = .ok (.iload_n 1, 1) := by decide +kernel
theorem dX1_begin_96 : decode cX1_begin 96 = .ok (.iload_n 2, 1) := by decide +kernel
theorem dX1_begin_97 : decode cX1_begin 97 = .ok (.invokevirtual 131, 3) := by decide +kernel
theorem dX1_begin_100 : decode cX1_begin 100 = .ok (.istore 8, 2) := by decide +kernel
theorem dX1_begin_102 : decode cX1_begin 102 = .ok (.iload 8, 2) := by decide +kernel
theorem dX1_begin_104 : decode cX1_begin 104 = .ok (.iload 6, 2) := by decide +kernel
theorem dX1_begin_106 : decode cX1_begin 106 = .ok (.if_icmp .le 11, 3) := by decide +kernel
theorem dX1_begin_109 : decode cX1_begin 109 = .ok (.iload 7, 2) := by decide +kernel
theorem dX1_begin_111 : decode cX1_begin 111 = .ok (.istore 5, 2) := by decide +kernel
theorem dX1_begin_113 : decode cX1_begin 113 = .ok (.iload 8, 2) := by decide +kernel
theorem dX1_begin_115 : decode cX1_begin 115 = .ok (.istore 6, 2) := by decide +kernel
theorem dX1_begin_117 : decode cX1_begin 117 = .ok (.iinc 7 1, 3) := by decide +kernel
theorem dX1_begin_120 : decode cX1_begin 120 = .ok (.goto (-57), 3) := by decide +kernel
theorem dX1_begin_123 : decode cX1_begin 123 = .ok (.iload_n 3, 1) := by decide +kernel
theorem dX1_begin_124 : decode cX1_begin 124 = .ok (.ifCond .ne 8, 3) := by decide +kernel
theorem dX1_begin_127 : decode cX1_begin 127 = .ok (.iload 5, 2) := by decide +kernel
theorem dX1_begin_129 : decode cX1_begin 129 = .ok (.goto 5, 3) := by decide +kernel
theorem dX1_begin_132 : decode cX1_begin 132 = .ok (.iload 6, 2) := by decide +kernel
theorem dX1_begin_134 : decode cX1_begin 134 = .ok (.ireturn, 1) := by decide +kernel
set_option maxRecDepth 20000 in
theorem ggX1_head_X0_has : GoodIn wsX1_head wsX0_has := goodIn_r _ [7, 8, 75, 76, 77, 78, 79, 80, 81, 82] (by decide +kernel) (by decide +kernel)
set_option maxRecDepth 20000 in
theorem gX1_head_X0_has : GoodIn wsX1_head (wsV RX1 66 RX0 yX0_has wsX0_has) := goodIn_app (goodIn_of _ (by decide +kernel)) ggX1_head_X0_has
set_option maxRecDepth 20000 in
theorem ggX1_head_X1_isNode : GoodIn wsX1_head wsX1_isNode := goodIn_r _ [12] (by decide +kernel) (by decide +kernel)
set_option maxRecDepth 20000 in
theorem gX1_head_X1_isNode : GoodIn wsX1_head (va_wsS RX1 53 yX1_isNode wsX1_isNode) := goodIn_app (goodIn_of _ (by decide +kernel)) ggX1_head_X1_isNode
set_option maxRecDepth 20000 in
theorem ggX1_head_X1_refuse : GoodIn wsX1_head wsX1_refuse := goodIn_r _ [16, 17, 63, 64, 65, 66, 67, 68, 69, 70, 71, 72, 73, 74] (by decide +kernel) (by decide +kernel)
set_option maxRecDepth 20000 in
theorem gX1_head_X1_refuse : GoodIn wsX1_head (wsV RX1 38 RX1 yX1_refuse wsX1_refuse) := goodIn_app (goodIn_of _ (by decide +kernel)) ggX1_head_X1_refuse
set_option maxRecDepth 20000 in
theorem ggX1_head_X0_becomes : GoodIn wsX1_head wsX0_becomes := goodIn_r _ [21, 22, 23, 24, 25, 26, 27, 28, 29, 30, 31, 8, 32, 75, 76, 77, 78, 79, 80, 81, 82] (by decide +kernel) (by decide +kernel)
set_option maxRecDepth 20000 in
theorem gX1_head_X0_becomes : GoodIn wsX1_head (wsV RX1 124 RX0 yX0_becomes wsX0_becomes) := goodIn_app (goodIn_of _ (by decide +kernel)) ggX1_head_X0_becomes
set_option maxRecDepth 20000 in
theorem ggX1_head_X0_putHeading : GoodIn wsX1_head wsX0_putHeading := goodIn_r _ [36, 30, 37, 4, 5, 6, 7, 8, 75, 76, 77, 78, 79, 80, 81, 82] (by decide +kernel) (by decide +kernel)
set_option maxRecDepth 20000 in
theorem gX1_head_X0_putHeading : GoodIn wsX1_head (wsV RX1 106 RX0 yX0_putHeading wsX0_putHeading) := goodIn_app (goodIn_of _ (by decide +kernel)) ggX1_head_X0_putHeading
set_option maxRecDepth 20000 in
theorem ggX1_head_X0_soonestAt : GoodIn wsX1_head wsX0_soonestAt := goodIn_r _ [41, 42, 43, 44, 6, 45, 29, 37, 4, 5, 7, 8, 46, 47, 48, 49, 32, 50, 51, 52, 53, 28, 22, 27, 30, 31, 54, 55, 56, 57, 10, 11, 12, 58, 59, 60, 61, 62, 75, 76, 77, 78, 79, 80, 81, 82] (by decide +kernel) (by decide +kernel)
set_option maxRecDepth 20000 in
theorem gX1_head_X0_soonestAt : GoodIn wsX1_head (wsV RX1 128 RX0 yX0_soonestAt wsX0_soonestAt) := goodIn_app (goodIn_of _ (by decide +kernel)) ggX1_head_X0_soonestAt
theorem dX1_head_0 : decode cX1_head 0 = .ok (.aload_n 0, 1) := by decide +kernel
theorem dX1_head_1 : decode cX1_head 1 = .ok (.getfield 10, 3) := by decide +kernel
theorem dX1_head_4 : decode cX1_head 4 = .ok (.iload_n 1, 1) := by decide +kernel
theorem dX1_head_5 : decode cX1_head 5 = .ok (.invokevirtual 66, 3) := by decide +kernel
theorem dX1_head_8 : decode cX1_head 8 = .ok (.ifCond .eq 10, 3) := by decide +kernel
theorem dX1_head_11 : decode cX1_head 11 = .ok (.iload_n 2, 1) := by decide +kernel
theorem dX1_head_12 : decode cX1_head 12 = .ok (.invokestatic 53, 3) := by decide +kernel
theorem dX1_head_15 : decode cX1_head 15 = .ok (.ifCond .ne 9, 3) := by decide +kernel
theorem dX1_head_18 : decode cX1_head 18 = .ok (.aload_n 0, 1) := by decide +kernel
theorem dX1_head_19 : decode cX1_head 19 = .ok (.iconst (-1), 1) := by decide +kernel
theorem dX1_head_20 : decode cX1_head 20 = .ok (.invokevirtual 38, 3) := by decide +kernel
theorem dX1_head_23 : decode cX1_head 23 = .ok (.ireturn, 1) := by decide +kernel
theorem dX1_head_24 : decode cX1_head 24 = .ok (.bipush (-9), 2) := by decide +kernel
theorem dX1_head_26 : decode cX1_head 26 = .ok (.istore_n 3, 1) := by decide +kernel
theorem dX1_head_27 : decode cX1_head 27 = .ok (.bipush 61, 2) := by decide +kernel
theorem dX1_head_29 : decode cX1_head 29 = .ok (.istore 4, 2) := by decide +kernel
theorem dX1_head_31 : decode cX1_head 31 = .ok (.iconst 0, 1) := by decide +kernel
theorem dX1_head_32 : decode cX1_head 32 = .ok (.istore 5, 2) := by decide +kernel
theorem dX1_head_34 : decode cX1_head 34 = .ok (.iload 5, 2) := by decide +kernel
theorem dX1_head_36 : decode cX1_head 36 = .ok (.iconst 4, 1) := by decide +kernel
theorem dX1_head_37 : decode cX1_head 37 = .ok (.if_icmp .ge 60, 3) := by decide +kernel
theorem dX1_head_40 : decode cX1_head 40 = .ok (.aload_n 0, 1) := by decide +kernel
theorem dX1_head_41 : decode cX1_head 41 = .ok (.getfield 16, 3) := by decide +kernel
theorem dX1_head_44 : decode cX1_head 44 = .ok (.aload_n 0, 1) := by decide +kernel
theorem dX1_head_45 : decode cX1_head 45 = .ok (.getfield 10, 3) := by decide +kernel
theorem dX1_head_48 : decode cX1_head 48 = .ok (.invokevirtual 124, 3) := by decide +kernel
theorem dX1_head_51 : decode cX1_head 51 = .ok (.aload_n 0, 1) := by decide +kernel
theorem dX1_head_52 : decode cX1_head 52 = .ok (.getfield 16, 3) := by decide +kernel
theorem dX1_head_55 : decode cX1_head 55 = .ok (.iload_n 1, 1) := by decide +kernel
theorem dX1_head_56 : decode cX1_head 56 = .ok (.iload 5, 2) := by decide +kernel
theorem dX1_head_58 : decode cX1_head 58 = .ok (.invokevirtual 106, 3) := by decide +kernel
theorem dX1_head_61 : decode cX1_head 61 = .ok (.aload_n 0, 1) := by decide +kernel
theorem dX1_head_62 : decode cX1_head 62 = .ok (.getfield 16, 3) := by decide +kernel
theorem dX1_head_65 : decode cX1_head 65 = .ok (.iload_n 1, 1) := by decide +kernel
theorem dX1_head_66 : decode cX1_head 66 = .ok (.iload_n 2, 1) := by decide +kernel
theorem dX1_head_67 : decode cX1_head 67 = .ok (.invokevirtual 128, 3) := by decide +kernel
theorem dX1_head_70 : decode cX1_head 70 = .ok (.istore 6, 2) := by decide +kernel
theorem dX1_head_72 : decode cX1_head 72 = .ok (.iload 6, 2) := by decide +kernel
theorem dX1_head_74 : decode cX1_head 74 = .ok (.ifCond .lt 17, 3) := by decide +kernel
theorem dX1_head_77 : decode cX1_head 77 = .ok (.iload 6, 2) := by decide +kernel
theorem dX1_head_79 : decode cX1_head 79 = .ok (.iload 4, 2) := by decide +kernel
theorem dX1_head_81 : decode cX1_head 81 = .ok (.if_icmp .ge 10, 3) := by decide +kernel
theorem dX1_head_84 : decode cX1_head 84 = .ok (.iload 5, 2) := by decide +kernel
theorem dX1_head_86 : decode cX1_head 86 = .ok (.istore_n 3, 1) := by decide +kernel
theorem dX1_head_87 : decode cX1_head 87 = .ok (.iload 6, 2) := by decide +kernel
theorem dX1_head_89 : decode cX1_head 89 = .ok (.istore 4, 2) := by decide +kernel
theorem dX1_head_91 : decode cX1_head 91 = .ok (.iinc 5 1, 3) := by decide +kernel
theorem dX1_head_94 : decode cX1_head 94 = .ok (.goto (-60), 3) := by decide +kernel
theorem dX1_head_97 : decode cX1_head 97 = .ok (.iload_n 3, 1) := by decide +kernel
theorem dX1_head_98 : decode cX1_head 98 = .ok (.ireturn, 1) := by decide +kernel
set_option maxRecDepth 20000 in
theorem ggX1_damp_X0_has : GoodIn wsX1_damp wsX0_has := goodIn_r _ [7, 8, 84, 85, 86, 87, 88, 89, 90, 91] (by decide +kernel) (by decide +kernel)
set_option maxRecDepth 20000 in
theorem gX1_damp_X0_has : GoodIn wsX1_damp (wsV RX1 66 RX0 yX0_has wsX0_has) := goodIn_app (goodIn_of _ (by decide +kernel)) ggX1_damp_X0_has
set_option maxRecDepth 20000 in
theorem ggX1_damp_X1_refuse : GoodIn wsX1_damp wsX1_refuse := goodIn_r _ [13, 14, 72, 73, 74, 75, 76, 77, 78, 79, 80, 81, 82, 83] (by decide +kernel) (by decide +kernel)
set_option maxRecDepth 20000 in
theorem gX1_damp_X1_refuse : GoodIn wsX1_damp (wsV RX1 38 RX1 yX1_refuse wsX1_refuse) := goodIn_app (goodIn_of _ (by decide +kernel)) ggX1_damp_X1_refuse
set_option maxRecDepth 20000 in
theorem ggX1_damp_X1_outside : GoodIn wsX1_damp wsX1_outside := goodIn_r _ [17] (by decide +kernel) (by decide +kernel)
set_option maxRecDepth 20000 in
theorem gX1_damp_X1_outside : GoodIn wsX1_damp (va_wsS RX1 79 yX1_outside wsX1_outside) := goodIn_app (goodIn_of _ (by decide +kernel)) ggX1_damp_X1_outside
set_option maxRecDepth 20000 in
theorem ggX1_damp_X0_becomes : GoodIn wsX1_damp wsX0_becomes := goodIn_r _ [21, 22, 23, 24, 25, 26, 27, 28, 29, 30, 31, 8, 32, 84, 85, 86, 87, 88, 89, 90, 91] (by decide +kernel) (by decide +kernel)
set_option maxRecDepth 20000 in
theorem gX1_damp_X0_becomes : GoodIn wsX1_damp (wsV RX1 124 RX0 yX0_becomes wsX0_becomes) := goodIn_app (goodIn_of _ (by decide +kernel)) ggX1_damp_X0_becomes
set_option maxRecDepth 20000 in
theorem ggX1_damp_X0_visitsIn : GoodIn wsX1_damp wsX0_visitsIn := goodIn_r _ [36, 37, 38, 39, 6, 40, 29, 41, 4, 5, 7, 8, 42, 43, 44, 45, 32, 46, 47, 48, 49, 28, 22, 27, 30, 31, 50, 51, 52, 53, 54, 12, 55, 56, 57, 58, 59, 60, 61, 62, 63, 64, 65, 66, 67, 84, 85, 86, 87, 88, 89, 90, 91] (by decide +kernel) (by decide +kernel)
set_option maxRecDepth 20000 in
theorem gX1_damp_X0_visitsIn : GoodIn wsX1_damp (wsV RX1 131 RX0 yX0_visitsIn wsX0_visitsIn) := goodIn_app (goodIn_of _ (by decide +kernel)) ggX1_damp_X0_visitsIn
set_option maxRecDepth 20000 in
theorem ggX1_damp_X0_putWet : GoodIn wsX1_damp wsX0_putWet := goodIn_r _ [71, 28, 54, 12, 55, 84, 85, 86, 87, 88, 89, 90, 91] (by decide +kernel) (by decide +kernel)
set_option maxRecDepth 20000 in
theorem gX1_damp_X0_putWet : GoodIn wsX1_damp (wsV RX1 90 RX0 yX0_putWet wsX0_putWet) := goodIn_app (goodIn_of _ (by decide +kernel)) ggX1_damp_X0_putWet
theorem dX1_damp_0 : decode cX1_damp 0 = .ok (.aload_n 0, 1) := by decide +kernel
theorem dX1_damp_1 : decode cX1_damp 1 = .ok (.getfield 10, 3) := by decide +kernel
theorem dX1_damp_4 : decode cX1_damp 4 = .ok (.iload_n 1, 1) := by decide +kernel
theorem dX1_damp_5 : decode cX1_damp 5 = .ok (.invokevirtual 66, 3) := by decide +kernel
theorem dX1_damp_8 : decode cX1_damp 8 = .ok (.ifCond .ne 9, 3) := by decide +kernel
theorem dX1_damp_11 : decode cX1_damp 11 = .ok (.aload_n 0, 1) := by decide +kernel
theorem dX1_damp_12 : decode cX1_damp 12 = .ok (.iconst (-1), 1) := by decide +kernel
theorem dX1_damp_13 : decode cX1_damp 13 = .ok (.invokevirtual 38, 3) := by decide +kernel
theorem dX1_damp_16 : decode cX1_damp 16 = .ok (.ireturn, 1) := by decide +kernel
theorem dX1_damp_17 : decode cX1_damp 17 = .ok (.iload_n 2, 1) := by decide +kernel
theorem dX1_damp_18 : decode cX1_damp 18 = .ok (.iconst 0, 1) := by decide +kernel
theorem dX1_damp_19 : decode cX1_damp 19 = .ok (.bipush 30, 2) := by decide +kernel
theorem dX1_damp_21 : decode cX1_damp 21 = .ok (.invokestatic 79, 3) := by decide +kernel
theorem dX1_damp_24 : decode cX1_damp 24 = .ok (.istore_n 3, 1) := by decide +kernel
theorem dX1_damp_25 : decode cX1_damp 25 = .ok (.iload_n 3, 1) := by decide +kernel
theorem dX1_damp_26 : decode cX1_damp 26 = .ok (.ifCond .eq 9, 3) := by decide +kernel
theorem dX1_damp_29 : decode cX1_damp 29 = .ok (.aload_n 0, 1) := by decide +kernel
theorem dX1_damp_30 : decode cX1_damp 30 = .ok (.iload_n 3, 1) := by decide +kernel
theorem dX1_damp_31 : decode cX1_damp 31 = .ok (.invokevirtual 38, 3) := by decide +kernel
theorem dX1_damp_34 : decode cX1_damp 34 = .ok (.ireturn, 1) := by decide +kernel
theorem dX1_damp_35 : decode cX1_damp 35 = .ok (.aload_n 0, 1) := by decide +kernel
theorem dX1_damp_36 : decode cX1_damp 36 = .ok (.getfield 16, 3) := by decide +kernel
theorem dX1_damp_39 : decode cX1_damp 39 = .ok (.aload_n 0, 1) := by decide +kernel
theorem dX1_damp_40 : decode cX1_damp 40 = .ok (.getfield 10, 3) := by decide +kernel
theorem dX1_damp_43 : decode cX1_damp 43 = .ok (.invokevirtual 124, 3) := by decide +kernel
theorem dX1_damp_46 : decode cX1_damp 46 = .ok (.aload_n 0, 1) := by decide +kernel
theorem dX1_damp_47 : decode cX1_damp 47 = .ok (.getfield 16, 3) := by decide +kernel
theorem dX1_damp_50 : decode cX1_damp 50 = .ok (.iload_n 1, 1) := by decide +kernel
theorem dX1_damp_51 : decode cX1_damp 51 = .ok (.iload_n 2, 1) := by decide +kernel
theorem dX1_damp_52 : decode cX1_damp 52 = .ok (.invokevirtual 131, 3) := by decide +kernel
theorem dX1_damp_55 : decode cX1_damp 55 = .ok (.istore 4, 2) := by decide +kernel
theorem dX1_damp_57 : decode cX1_damp 57 = .ok (.bipush (-9), 2) := by decide +kernel
theorem dX1_damp_59 : decode cX1_damp 59 = .ok (.istore 5, 2) := by decide +kernel
theorem dX1_damp_61 : decode cX1_damp 61 = .ok (.iconst 0, 1) := by decide +kernel
theorem dX1_damp_62 : decode cX1_damp 62 = .ok (.istore 6, 2) := by decide +kernel
theorem dX1_damp_64 : decode cX1_damp 64 = .ok (.iload 6, 2) := by decide +kernel
theorem dX1_damp_66 : decode cX1_damp 66 = .ok (.bipush 30, 2) := by decide +kernel
theorem dX1_damp_68 : decode cX1_damp 68 = .ok (.if_icmp .ge 57, 3) := by decide +kernel
theorem dX1_damp_71 : decode cX1_damp 71 = .ok (.aload_n 0, 1) := by decide +kernel
theorem dX1_damp_72 : decode cX1_damp 72 = .ok (.getfield 16, 3) := by decide +kernel
theorem dX1_damp_75 : decode cX1_damp 75 = .ok (.aload_n 0, 1) := by decide +kernel
theorem dX1_damp_76 : decode cX1_damp 76 = .ok (.getfield 10, 3) := by decide +kernel
theorem dX1_damp_79 : decode cX1_damp 79 = .ok (.invokevirtual 124, 3) := by decide +kernel
theorem dX1_damp_82 : decode cX1_damp 82 = .ok (.aload_n 0, 1) := by decide +kernel
theorem dX1_damp_83 : decode cX1_damp 83 = .ok (.getfield 16, 3) := by decide +kernel
theorem dX1_damp_86 : decode cX1_damp 86 = .ok (.iload 6, 2) := by decide +kernel
theorem dX1_damp_88 : decode cX1_damp 88 = .ok (.bipush 9, 2) := by decide +kernel
theorem dX1_damp_90 : decode cX1_damp 90 = .ok (.invokevirtual 90, 3) := by decide +kernel
theorem dX1_damp_93 : decode cX1_damp 93 = .ok (.aload_n 0, 1) := by decide +kernel
theorem dX1_damp_94 : decode cX1_damp 94 = .ok (.getfield 16, 3) := by decide +kernel
theorem dX1_damp_97 : decode cX1_damp 97 = .ok (.iload_n 1, 1) := by decide +kernel
theorem dX1_damp_98 : decode cX1_damp 98 = .ok (.iload_n 2, 1) := by decide +kernel
theorem dX1_damp_99 : decode cX1_damp 99 = .ok (.invokevirtual 131, 3) := by decide +kernel
theorem dX1_damp_102 : decode cX1_damp 102 = .ok (.istore 7, 2) := by decide +kernel
theorem dX1_damp_104 : decode cX1_damp 104 = .ok (.iload 7, 2) := by decide +kernel
theorem dX1_damp_106 : decode cX1_damp 106 = .ok (.iload 4, 2) := by decide +kernel
theorem dX1_damp_108 : decode cX1_damp 108 = .ok (.if_icmp .le 11, 3) := by decide +kernel
theorem dX1_damp_111 : decode cX1_damp 111 = .ok (.iload 6, 2) := by decide +kernel
theorem dX1_damp_113 : decode cX1_damp 113 = .ok (.istore 5, 2) := by decide +kernel
theorem dX1_damp_115 : decode cX1_damp 115 = .ok (.iload 7, 2) := by decide +kernel
theorem dX1_damp_117 : decode cX1_damp 117 = .ok (.istore 4, 2) := by decide +kernel
theorem dX1_damp_119 : decode cX1_damp 119 = .ok (.iinc 6 1, 3) := by decide +kernel
theorem dX1_damp_122 : decode cX1_damp 122 = .ok (.goto (-58), 3) := by decide +kernel
theorem dX1_damp_125 : decode cX1_damp 125 = .ok (.iload 5, 2) := by decide +kernel
theorem dX1_damp_127 : decode cX1_damp 127 = .ok (.ireturn, 1) := by decide +kernel
set_option maxRecDepth 20000 in
theorem ggX1_bestKind_X1_isNode : GoodIn wsX1_bestKind wsX1_isNode := goodIn_r _ [6] (by decide +kernel) (by decide +kernel)
set_option maxRecDepth 20000 in
theorem gX1_bestKind_X1_isNode : GoodIn wsX1_bestKind (va_wsS RX1 53 yX1_isNode wsX1_isNode) := goodIn_app (goodIn_of _ (by decide +kernel)) ggX1_bestKind_X1_isNode
set_option maxRecDepth 20000 in
theorem ggX1_bestKind_X0_has : GoodIn wsX1_bestKind wsX0_has := goodIn_r _ [11, 12, 85, 86, 87, 88, 89, 90, 91, 92] (by decide +kernel) (by decide +kernel)
set_option maxRecDepth 20000 in
theorem gX1_bestKind_X0_has : GoodIn wsX1_bestKind (wsV RX1 66 RX0 yX0_has wsX0_has) := goodIn_app (goodIn_of _ (by decide +kernel)) ggX1_bestKind_X0_has
set_option maxRecDepth 20000 in
theorem ggX1_bestKind_X1_refuse : GoodIn wsX1_bestKind wsX1_refuse := goodIn_r _ [16, 17, 73, 74, 75, 76, 77, 78, 79, 80, 81, 82, 83, 84] (by decide +kernel) (by decide +kernel)
set_option maxRecDepth 20000 in
theorem gX1_bestKind_X1_refuse : GoodIn wsX1_bestKind (wsV RX1 38 RX1 yX1_refuse wsX1_refuse) := goodIn_app (goodIn_of _ (by decide +kernel)) ggX1_bestKind_X1_refuse
set_option maxRecDepth 20000 in
theorem ggX1_bestKind_X1_outside : GoodIn wsX1_bestKind wsX1_outside := goodIn_r _ [20] (by decide +kernel) (by decide +kernel)
set_option maxRecDepth 20000 in
theorem gX1_bestKind_X1_outside : GoodIn wsX1_bestKind (va_wsS RX1 79 yX1_outside wsX1_outside) := goodIn_app (goodIn_of _ (by decide +kernel)) ggX1_bestKind_X1_outside
set_option maxRecDepth 20000 in
theorem ggX1_bestKind_X0_becomes : GoodIn wsX1_bestKind wsX0_becomes := goodIn_r _ [24, 25, 26, 27, 28, 29, 30, 31, 32, 33, 34, 12, 35, 85, 86, 87, 88, 89, 90, 91, 92] (by decide +kernel) (by decide +kernel)
set_option maxRecDepth 20000 in
theorem gX1_bestKind_X0_becomes : GoodIn wsX1_bestKind (wsV RX1 124 RX0 yX0_becomes wsX0_becomes) := goodIn_app (goodIn_of _ (by decide +kernel)) ggX1_bestKind_X0_becomes
set_option maxRecDepth 20000 in
theorem ggX1_bestKind_X0_putKind : GoodIn wsX1_bestKind wsX0_putKind := goodIn_r _ [39, 25, 4, 5, 6, 85, 86, 87, 88, 89, 90, 91, 92] (by decide +kernel) (by decide +kernel)
set_option maxRecDepth 20000 in
theorem gX1_bestKind_X0_putKind : GoodIn wsX1_bestKind (wsV RX1 83 RX0 yX0_putKind wsX0_putKind) := goodIn_app (goodIn_of _ (by decide +kernel)) ggX1_bestKind_X0_putKind
set_option maxRecDepth 20000 in
theorem ggX1_bestKind_X0_visitsIn : GoodIn wsX1_bestKind wsX0_visitsIn := goodIn_r _ [43, 44, 45, 46, 10, 47, 32, 48, 8, 9, 11, 12, 49, 50, 51, 52, 35, 53, 54, 55, 56, 31, 25, 30, 33, 34, 57, 58, 59, 60, 4, 5, 6, 61, 62, 63, 64, 65, 66, 67, 68, 69, 70, 71, 72, 85, 86, 87, 88, 89, 90, 91, 92] (by decide +kernel) (by decide +kernel)
set_option maxRecDepth 20000 in
theorem gX1_bestKind_X0_visitsIn : GoodIn wsX1_bestKind (wsV RX1 131 RX0 yX0_visitsIn wsX0_visitsIn) := goodIn_app (goodIn_of _ (by decide +kernel)) ggX1_bestKind_X0_visitsIn
theorem dX1_bestKind_0 : decode cX1_bestKind 0 = .ok (.iload_n 1, 1) := by decide +kernel
theorem dX1_bestKind_1 : decode cX1_bestKind 1 = .ok (.invokestatic 53, 3) := by decide +kernel
theorem dX1_bestKind_4 : decode cX1_bestKind 4 = .ok (.ifCond .eq 14, 3) := by decide +kernel
theorem dX1_bestKind_7 : decode cX1_bestKind 7 = .ok (.aload_n 0, 1) := by decide +kernel
theorem dX1_bestKind_8 : decode cX1_bestKind 8 = .ok (.getfield 10, 3) := by decide +kernel
theorem dX1_bestKind_11 : decode cX1_bestKind 11 = .ok (.iload_n 2, 1) := by decide +kernel
theorem dX1_bestKind_12 : decode cX1_bestKind 12 = .ok (.invokevirtual 66, 3) := by decide +kernel
theorem dX1_bestKind_15 : decode cX1_bestKind 15 = .ok (.ifCond .ne 9, 3) := by decide +kernel
theorem dX1_bestKind_18 : decode cX1_bestKind 18 = .ok (.aload_n 0, 1) := by decide +kernel
theorem dX1_bestKind_19 : decode cX1_bestKind 19 = .ok (.iconst (-1), 1) := by decide +kernel
theorem dX1_bestKind_20 : decode cX1_bestKind 20 = .ok (.invokevirtual 38, 3) := by decide +kernel
theorem dX1_bestKind_23 : decode cX1_bestKind 23 = .ok (.ireturn, 1) := by decide +kernel
theorem dX1_bestKind_24 : decode cX1_bestKind 24 = .ok (.iload_n 3, 1) := by decide +kernel
theorem dX1_bestKind_25 : decode cX1_bestKind 25 = .ok (.iconst 0, 1) := by decide +kernel
theorem dX1_bestKind_26 : decode cX1_bestKind 26 = .ok (.bipush 30, 2) := by decide +kernel
theorem dX1_bestKind_28 : decode cX1_bestKind 28 = .ok (.invokestatic 79, 3) := by decide +kernel
theorem dX1_bestKind_31 : decode cX1_bestKind 31 = .ok (.istore 4, 2) := by decide +kernel
theorem dX1_bestKind_33 : decode cX1_bestKind 33 = .ok (.iload 4, 2) := by decide +kernel
theorem dX1_bestKind_35 : decode cX1_bestKind 35 = .ok (.ifCond .eq 10, 3) := by decide +kernel
theorem dX1_bestKind_38 : decode cX1_bestKind 38 = .ok (.aload_n 0, 1) := by decide +kernel
theorem dX1_bestKind_39 : decode cX1_bestKind 39 = .ok (.iload 4, 2) := by decide +kernel
theorem dX1_bestKind_41 : decode cX1_bestKind 41 = .ok (.invokevirtual 38, 3) := by decide +kernel
theorem dX1_bestKind_44 : decode cX1_bestKind 44 = .ok (.ireturn, 1) := by decide +kernel
theorem dX1_bestKind_45 : decode cX1_bestKind 45 = .ok (.iconst 0, 1) := by decide +kernel
theorem dX1_bestKind_46 : decode cX1_bestKind 46 = .ok (.istore 5, 2) := by decide +kernel
theorem dX1_bestKind_48 : decode cX1_bestKind 48 = .ok (.iconst 0, 1) := by decide +kernel
theorem dX1_bestKind_49 : decode cX1_bestKind 49 = .ok (.istore 6, 2) := by decide +kernel
theorem dX1_bestKind_51 : decode cX1_bestKind 51 = .ok (.iconst 0, 1) := by decide +kernel
theorem dX1_bestKind_52 : decode cX1_bestKind 52 = .ok (.istore 7, 2) := by decide +kernel
theorem dX1_bestKind_54 : decode cX1_bestKind 54 = .ok (.iload 7, 2) := by decide +kernel
theorem dX1_bestKind_56 : decode cX1_bestKind 56 = .ok (.bipush 6, 2) := by decide +kernel
theorem dX1_bestKind_58 : decode cX1_bestKind 58 = .ok (.if_icmp .ge 56, 3) := by decide +kernel
theorem dX1_bestKind_61 : decode cX1_bestKind 61 = .ok (.aload_n 0, 1) := by decide +kernel
theorem dX1_bestKind_62 : decode cX1_bestKind 62 = .ok (.getfield 16, 3) := by decide +kernel
theorem dX1_bestKind_65 : decode cX1_bestKind 65 = .ok (.aload_n 0, 1) := by decide +kernel
theorem dX1_bestKind_66 : decode cX1_bestKind 66 = .ok (.getfield 10, 3) := by decide +kernel
theorem dX1_bestKind_69 : decode cX1_bestKind 69 = .ok (.invokevirtual 124, 3) := by decide +kernel
theorem dX1_bestKind_72 : decode cX1_bestKind 72 = .ok (.aload_n 0, 1) := by decide +kernel
theorem dX1_bestKind_73 : decode cX1_bestKind 73 = .ok (.getfield 16, 3) := by decide +kernel
theorem dX1_bestKind_76 : decode cX1_bestKind 76 = .ok (.iload_n 1, 1) := by decide +kernel
theorem dX1_bestKind_77 : decode cX1_bestKind 77 = .ok (.iload 7, 2) := by decide +kernel
theorem dX1_bestKind_79 : decode cX1_bestKind 79 = .ok (.invokevirtual 83, 3) := by decide +kernel
theorem dX1_bestKind_82 : decode cX1_bestKind 82 = .ok (.aload_n 0, 1) := by decide +kernel
theorem dX1_bestKind_83 : decode cX1_bestKind 83 = .ok (.getfield 16, 3) := by decide +kernel
theorem dX1_bestKind_86 : decode cX1_bestKind 86 = .ok (.iload_n 2, 1) := by decide +kernel
theorem dX1_bestKind_87 : decode cX1_bestKind 87 = .ok (.iload_n 3, 1) := by decide +kernel
theorem dX1_bestKind_88 : decode cX1_bestKind 88 = .ok (.invokevirtual 131, 3) := by decide +kernel
theorem dX1_bestKind_91 : decode cX1_bestKind 91 = .ok (.istore 8, 2) := by decide +kernel
theorem dX1_bestKind_93 : decode cX1_bestKind 93 = .ok (.iload 8, 2) := by decide +kernel
theorem dX1_bestKind_95 : decode cX1_bestKind 95 = .ok (.iload 6, 2) := by decide +kernel
theorem dX1_bestKind_97 : decode cX1_bestKind 97 = .ok (.if_icmp .le 11, 3) := by decide +kernel
theorem dX1_bestKind_100 : decode cX1_bestKind 100 = .ok (.iload 7, 2) := by decide +kernel
theorem dX1_bestKind_102 : decode cX1_bestKind 102 = .ok (.istore 5, 2) := by decide +kernel
theorem dX1_bestKind_104 : decode cX1_bestKind 104 = .ok (.iload 8, 2) := by decide +kernel
theorem dX1_bestKind_106 : decode cX1_bestKind 106 = .ok (.istore 6, 2) := by decide +kernel
theorem dX1_bestKind_108 : decode cX1_bestKind 108 = .ok (.iinc 7 1, 3) := by decide +kernel
theorem dX1_bestKind_111 : decode cX1_bestKind 111 = .ok (.goto (-57), 3) := by decide +kernel
theorem dX1_bestKind_114 : decode cX1_bestKind 114 = .ok (.iload 5, 2) := by decide +kernel
theorem dX1_bestKind_116 : decode cX1_bestKind 116 = .ok (.ireturn, 1) := by decide +kernel
set_option maxRecDepth 20000 in
theorem ggX1_dry_X0_dryNodes : GoodIn wsX1_dry wsX0_dryNodes := goodIn_r _ [6, 7, 8, 9, 5, 10, 11, 12, 13, 14, 87, 88, 89, 90, 91, 92, 93, 94] (by decide +kernel) (by decide +kernel)
set_option maxRecDepth 20000 in
theorem gX1_dry_X0_dryNodes : GoodIn wsX1_dry (wsV RX1 142 RX0 yX0_dryNodes wsX0_dryNodes) := goodIn_app (goodIn_of _ (by decide +kernel)) ggX1_dry_X0_dryNodes
set_option maxRecDepth 20000 in
theorem ggX1_dry_J6_bitCount_0f7a4 : GoodIn wsX1_dry wsJ6_bitCount_0f7a4 := goodIn_r _ [18, 19, 20, 21] (by decide +kernel) (by decide +kernel)
set_option maxRecDepth 20000 in
theorem gX1_dry_J6_bitCount_0f7a4 : GoodIn wsX1_dry (va_wsS RX1 145 yJ6_bitCount_0f7a4 wsJ6_bitCount_0f7a4) := goodIn_app (goodIn_of _ (by decide +kernel)) ggX1_dry_J6_bitCount_0f7a4
set_option maxRecDepth 20000 in
theorem ggX1_dry_X0_wettest : GoodIn wsX1_dry wsX0_wettest := goodIn_r _ [25, 7, 8, 9, 5, 10, 11, 12, 13, 14, 87, 88, 89, 90, 91, 92, 93, 94] (by decide +kernel) (by decide +kernel)
set_option maxRecDepth 20000 in
theorem gX1_dry_X0_wettest : GoodIn wsX1_dry (wsV RX1 150 RX0 yX0_wettest wsX0_wettest) := goodIn_app (goodIn_of _ (by decide +kernel)) ggX1_dry_X0_wettest
set_option maxRecDepth 20000 in
theorem ggX1_dry_X0_allWet : GoodIn wsX1_dry wsX0_allWet := goodIn_r _ [29, 30, 31, 32, 5, 33, 7, 8, 9, 10, 11, 12, 13, 14, 87, 88, 89, 90, 91, 92, 93, 94] (by decide +kernel) (by decide +kernel)
set_option maxRecDepth 20000 in
theorem gX1_dry_X0_allWet : GoodIn wsX1_dry (wsV RX1 121 RX0 yX0_allWet wsX0_allWet) := goodIn_app (goodIn_of _ (by decide +kernel)) ggX1_dry_X0_allWet
set_option maxRecDepth 20000 in
theorem ggX1_dry_X0_mostHelped : GoodIn wsX1_dry wsX0_mostHelped := goodIn_r _ [37, 38, 39, 40, 41, 5, 42, 43, 44, 45, 46, 47, 87, 88, 89, 90, 91, 92, 93, 94] (by decide +kernel) (by decide +kernel)
set_option maxRecDepth 20000 in
theorem gX1_dry_X0_mostHelped : GoodIn wsX1_dry (wsV RX1 153 RX0 yX0_mostHelped wsX0_mostHelped) := goodIn_app (goodIn_of _ (by decide +kernel)) ggX1_dry_X0_mostHelped
set_option maxRecDepth 20000 in
theorem ggX1_dry_X0_together : GoodIn wsX1_dry wsX0_together := goodIn_r _ [51, 38, 52, 53, 54, 5, 55, 56, 44, 45, 46, 47, 87, 88, 89, 90, 91, 92, 93, 94] (by decide +kernel) (by decide +kernel)
set_option maxRecDepth 20000 in
theorem gX1_dry_X0_together : GoodIn wsX1_dry (wsV RX1 156 RX0 yX0_together wsX0_together) := goodIn_app (goodIn_of _ (by decide +kernel)) ggX1_dry_X0_together
set_option maxRecDepth 20000 in
theorem ggX1_dry_X0_atEdges : GoodIn wsX1_dry wsX0_atEdges := goodIn_r _ [60, 38, 52, 53, 54, 5, 55, 56, 44, 45, 46, 47, 61, 62, 63, 64, 13, 65, 87, 88, 89, 90, 91, 92, 93, 94] (by decide +kernel) (by decide +kernel)
set_option maxRecDepth 20000 in
theorem gX1_dry_X0_atEdges : GoodIn wsX1_dry (wsV RX1 159 RX0 yX0_atEdges wsX0_atEdges) := goodIn_app (goodIn_of _ (by decide +kernel)) ggX1_dry_X0_atEdges
set_option maxRecDepth 20000 in
theorem ggX1_dry_X0_wettestRow : GoodIn wsX1_dry wsX0_wettestRow := goodIn_r _ [69, 30, 31, 32, 5, 33, 7, 8, 9, 10, 11, 12, 13, 14, 87, 88, 89, 90, 91, 92, 93, 94] (by decide +kernel) (by decide +kernel)
set_option maxRecDepth 20000 in
theorem gX1_dry_X0_wettestRow : GoodIn wsX1_dry (wsV RX1 162 RX0 yX0_wettestRow wsX0_wettestRow) := goodIn_app (goodIn_of _ (by decide +kernel)) ggX1_dry_X0_wettestRow
set_option maxRecDepth 20000 in
theorem ggX1_dry_X1_refuse : GoodIn wsX1_dry wsX1_refuse := goodIn_r _ [73, 74, 75, 76, 77, 78, 79, 80, 81, 82, 83, 84, 85, 86] (by decide +kernel) (by decide +kernel)
set_option maxRecDepth 20000 in
theorem gX1_dry_X1_refuse : GoodIn wsX1_dry (wsV RX1 38 RX1 yX1_refuse wsX1_refuse) := goodIn_app (goodIn_of _ (by decide +kernel)) ggX1_dry_X1_refuse
theorem dX1_dry_0 : decode cX1_dry 0 = .ok (.iload_n 1, 1) := by decide +kernel
theorem dX1_dry_1 : decode cX1_dry 1 = .ok (.tableswitch 102 0 6 #[43, 54, 62, 70, 78, 86, 94], 43) := by decide +kernel
theorem dX1_dry_44 : decode cX1_dry 44 = .ok (.aload_n 0, 1) := by decide +kernel
theorem dX1_dry_45 : decode cX1_dry 45 = .ok (.getfield 10, 3) := by decide +kernel
theorem dX1_dry_48 : decode cX1_dry 48 = .ok (.invokevirtual 142, 3) := by decide +kernel
theorem dX1_dry_51 : decode cX1_dry 51 = .ok (.invokestatic 145, 3) := by decide +kernel
theorem dX1_dry_54 : decode cX1_dry 54 = .ok (.ireturn, 1) := by decide +kernel
theorem dX1_dry_55 : decode cX1_dry 55 = .ok (.aload_n 0, 1) := by decide +kernel
theorem dX1_dry_56 : decode cX1_dry 56 = .ok (.getfield 10, 3) := by decide +kernel
theorem dX1_dry_59 : decode cX1_dry 59 = .ok (.invokevirtual 150, 3) := by decide +kernel
theorem dX1_dry_62 : decode cX1_dry 62 = .ok (.ireturn, 1) := by decide +kernel
theorem dX1_dry_63 : decode cX1_dry 63 = .ok (.aload_n 0, 1) := by decide +kernel
theorem dX1_dry_64 : decode cX1_dry 64 = .ok (.getfield 10, 3) := by decide +kernel
theorem dX1_dry_67 : decode cX1_dry 67 = .ok (.invokevirtual 121, 3) := by decide +kernel
theorem dX1_dry_70 : decode cX1_dry 70 = .ok (.ireturn, 1) := by decide +kernel
theorem dX1_dry_71 : decode cX1_dry 71 = .ok (.aload_n 0, 1) := by decide +kernel
theorem dX1_dry_72 : decode cX1_dry 72 = .ok (.getfield 10, 3) := by decide +kernel
theorem dX1_dry_75 : decode cX1_dry 75 = .ok (.invokevirtual 153, 3) := by decide +kernel
theorem dX1_dry_78 : decode cX1_dry 78 = .ok (.ireturn, 1) := by decide +kernel
theorem dX1_dry_79 : decode cX1_dry 79 = .ok (.aload_n 0, 1) := by decide +kernel
theorem dX1_dry_80 : decode cX1_dry 80 = .ok (.getfield 10, 3) := by decide +kernel
theorem dX1_dry_83 : decode cX1_dry 83 = .ok (.invokevirtual 156, 3) := by decide +kernel
theorem dX1_dry_86 : decode cX1_dry 86 = .ok (.ireturn, 1) := by decide +kernel
theorem dX1_dry_87 : decode cX1_dry 87 = .ok (.aload_n 0, 1) := by decide +kernel
theorem dX1_dry_88 : decode cX1_dry 88 = .ok (.getfield 10, 3) := by decide +kernel
theorem dX1_dry_91 : decode cX1_dry 91 = .ok (.invokevirtual 159, 3) := by decide +kernel
theorem dX1_dry_94 : decode cX1_dry 94 = .ok (.ireturn, 1) := by decide +kernel
theorem dX1_dry_95 : decode cX1_dry 95 = .ok (.aload_n 0, 1) := by decide +kernel
theorem dX1_dry_96 : decode cX1_dry 96 = .ok (.getfield 10, 3) := by decide +kernel
theorem dX1_dry_99 : decode cX1_dry 99 = .ok (.invokevirtual 162, 3) := by decide +kernel
theorem dX1_dry_102 : decode cX1_dry 102 = .ok (.ireturn, 1) := by decide +kernel
theorem dX1_dry_103 : decode cX1_dry 103 = .ok (.aload_n 0, 1) := by decide +kernel
theorem dX1_dry_104 : decode cX1_dry 104 = .ok (.bipush (-2), 2) := by decide +kernel
theorem dX1_dry_106 : decode cX1_dry 106 = .ok (.invokevirtual 38, 3) := by decide +kernel
theorem dX1_dry_109 : decode cX1_dry 109 = .ok (.ireturn, 1) := by decide +kernel
set_option maxRecDepth 20000 in
theorem ggX1_kinds_X1_isKind : GoodIn wsX1_kinds wsX1_isKind := goodIn_r _ [5] (by decide +kernel) (by decide +kernel)
set_option maxRecDepth 20000 in
theorem gX1_kinds_X1_isKind : GoodIn wsX1_kinds (va_wsS RX1 76 yX1_isKind wsX1_isKind) := goodIn_app (goodIn_of _ (by decide +kernel)) ggX1_kinds_X1_isKind
set_option maxRecDepth 20000 in
theorem ggX1_kinds_X1_refuse : GoodIn wsX1_kinds wsX1_refuse := goodIn_r _ [9, 10, 19, 20, 21, 22, 23, 24, 25, 26, 27, 28, 29, 30] (by decide +kernel) (by decide +kernel)
set_option maxRecDepth 20000 in
theorem gX1_kinds_X1_refuse : GoodIn wsX1_kinds (wsV RX1 38 RX1 yX1_refuse wsX1_refuse) := goodIn_app (goodIn_of _ (by decide +kernel)) ggX1_kinds_X1_refuse
set_option maxRecDepth 20000 in
theorem ggX1_kinds_X0_kindOf : GoodIn wsX1_kinds wsX0_kindOf := goodIn_r _ [15, 16, 17, 4, 18, 31, 32, 33, 34, 35, 36, 37, 38] (by decide +kernel) (by decide +kernel)
set_option maxRecDepth 20000 in
theorem gX1_kinds_X0_kindOf : GoodIn wsX1_kinds (wsV RX1 57 RX0 yX0_kindOf wsX0_kindOf) := goodIn_app (goodIn_of _ (by decide +kernel)) ggX1_kinds_X0_kindOf
theorem dX1_kinds_0 : decode cX1_kinds 0 = .ok (.iload_n 1, 1) := by decide +kernel
theorem dX1_kinds_1 : decode cX1_kinds 1 = .ok (.invokestatic 76, 3) := by decide +kernel
theorem dX1_kinds_4 : decode cX1_kinds 4 = .ok (.ifCond .ne 10, 3) := by decide +kernel
theorem dX1_kinds_7 : decode cX1_kinds 7 = .ok (.aload_n 0, 1) := by decide +kernel
theorem dX1_kinds_8 : decode cX1_kinds 8 = .ok (.bipush (-2), 2) := by decide +kernel
theorem dX1_kinds_10 : decode cX1_kinds 10 = .ok (.invokevirtual 38, 3) := by decide +kernel
theorem dX1_kinds_13 : decode cX1_kinds 13 = .ok (.ireturn, 1) := by decide +kernel
theorem dX1_kinds_14 : decode cX1_kinds 14 = .ok (.iconst 0, 1) := by decide +kernel
theorem dX1_kinds_15 : decode cX1_kinds 15 = .ok (.istore_n 2, 1) := by decide +kernel
theorem dX1_kinds_16 : decode cX1_kinds 16 = .ok (.iconst 0, 1) := by decide +kernel
theorem dX1_kinds_17 : decode cX1_kinds 17 = .ok (.istore_n 3, 1) := by decide +kernel
theorem dX1_kinds_18 : decode cX1_kinds 18 = .ok (.iload_n 3, 1) := by decide +kernel
theorem dX1_kinds_19 : decode cX1_kinds 19 = .ok (.bipush 30, 2) := by decide +kernel
theorem dX1_kinds_21 : decode cX1_kinds 21 = .ok (.if_icmp .ge 24, 3) := by decide +kernel
theorem dX1_kinds_24 : decode cX1_kinds 24 = .ok (.aload_n 0, 1) := by decide +kernel
theorem dX1_kinds_25 : decode cX1_kinds 25 = .ok (.getfield 10, 3) := by decide +kernel
theorem dX1_kinds_28 : decode cX1_kinds 28 = .ok (.iload_n 3, 1) := by decide +kernel
theorem dX1_kinds_29 : decode cX1_kinds 29 = .ok (.invokevirtual 57, 3) := by decide +kernel
theorem dX1_kinds_32 : decode cX1_kinds 32 = .ok (.iload_n 1, 1) := by decide +kernel
theorem dX1_kinds_33 : decode cX1_kinds 33 = .ok (.if_icmp .ne 6, 3) := by decide +kernel
theorem dX1_kinds_36 : decode cX1_kinds 36 = .ok (.iinc 2 1, 3) := by decide +kernel
theorem dX1_kinds_39 : decode cX1_kinds 39 = .ok (.iinc 3 1, 3) := by decide +kernel
theorem dX1_kinds_42 : decode cX1_kinds 42 = .ok (.goto (-24), 3) := by decide +kernel
theorem dX1_kinds_45 : decode cX1_kinds 45 = .ok (.iload_n 2, 1) := by decide +kernel
theorem dX1_kinds_46 : decode cX1_kinds 46 = .ok (.ireturn, 1) := by decide +kernel
set_option maxRecDepth 20000 in
theorem ggX1_near_X1_isNode : GoodIn wsX1_near wsX1_isNode := goodIn_r _ [5] (by decide +kernel) (by decide +kernel)
set_option maxRecDepth 20000 in
theorem gX1_near_X1_isNode : GoodIn wsX1_near (va_wsS RX1 53 yX1_isNode wsX1_isNode) := goodIn_app (goodIn_of _ (by decide +kernel)) ggX1_near_X1_isNode
set_option maxRecDepth 20000 in
theorem ggX1_near_X1_refuse : GoodIn wsX1_near wsX1_refuse := goodIn_r _ [9, 10, 33, 34, 35, 36, 37, 38, 39, 40, 41, 42, 43, 44] (by decide +kernel) (by decide +kernel)
set_option maxRecDepth 20000 in
theorem gX1_near_X1_refuse : GoodIn wsX1_near (wsV RX1 38 RX1 yX1_refuse wsX1_refuse) := goodIn_app (goodIn_of _ (by decide +kernel)) ggX1_near_X1_refuse
set_option maxRecDepth 20000 in
theorem ggX1_near_X0_nearest : GoodIn wsX1_near wsX0_nearest := goodIn_r _ [15, 16, 17, 18, 19, 14, 20, 21, 22, 23, 24, 25, 26, 27, 28, 29, 30, 31, 32, 45, 46, 47, 48, 49, 50, 51, 52] (by decide +kernel) (by decide +kernel)
set_option maxRecDepth 20000 in
theorem gX1_near_X0_nearest : GoodIn wsX1_near (wsV RX1 165 RX0 yX0_nearest wsX0_nearest) := goodIn_app (goodIn_of _ (by decide +kernel)) ggX1_near_X0_nearest
theorem dX1_near_0 : decode cX1_near 0 = .ok (.iload_n 1, 1) := by decide +kernel
theorem dX1_near_1 : decode cX1_near 1 = .ok (.invokestatic 53, 3) := by decide +kernel
theorem dX1_near_4 : decode cX1_near 4 = .ok (.ifCond .ne 9, 3) := by decide +kernel
theorem dX1_near_7 : decode cX1_near 7 = .ok (.aload_n 0, 1) := by decide +kernel
theorem dX1_near_8 : decode cX1_near 8 = .ok (.iconst (-1), 1) := by decide +kernel
theorem dX1_near_9 : decode cX1_near 9 = .ok (.invokevirtual 38, 3) := by decide +kernel
theorem dX1_near_12 : decode cX1_near 12 = .ok (.ireturn, 1) := by decide +kernel
theorem dX1_near_13 : decode cX1_near 13 = .ok (.aload_n 0, 1) := by decide +kernel
theorem dX1_near_14 : decode cX1_near 14 = .ok (.getfield 10, 3) := by decide +kernel
theorem dX1_near_17 : decode cX1_near 17 = .ok (.iload_n 1, 1) := by decide +kernel
theorem dX1_near_18 : decode cX1_near 18 = .ok (.invokevirtual 165, 3) := by decide +kernel
theorem dX1_near_21 : decode cX1_near 21 = .ok (.ireturn, 1) := by decide +kernel
set_option maxRecDepth 20000 in
theorem ggX1_two_X1_areTwo : GoodIn wsX1_two wsX1_areTwo := goodIn_r _ [5, 6, 7, 8, 9, 10, 11, 12, 81, 82, 83, 84, 85, 86, 87, 88, 89, 90, 91, 92, 93, 94, 95, 96, 97, 98, 99, 100] (by decide +kernel) (by decide +kernel)
set_option maxRecDepth 20000 in
theorem gX1_two_X1_areTwo : GoodIn wsX1_two (wsV RX1 134 RX1 yX1_areTwo wsX1_areTwo) := goodIn_app (goodIn_of _ (by decide +kernel)) ggX1_two_X1_areTwo
set_option maxRecDepth 20000 in
theorem ggX1_two_X1_refuse : GoodIn wsX1_two wsX1_refuse := goodIn_r _ [16, 17, 81, 82, 83, 84, 85, 86, 87, 88, 89, 90, 91, 92] (by decide +kernel) (by decide +kernel)
set_option maxRecDepth 20000 in
theorem gX1_two_X1_refuse : GoodIn wsX1_two (wsV RX1 38 RX1 yX1_refuse wsX1_refuse) := goodIn_app (goodIn_of _ (by decide +kernel)) ggX1_two_X1_refuse
set_option maxRecDepth 20000 in
theorem ggX1_two_X1_outside : GoodIn wsX1_two wsX1_outside := goodIn_r _ [20] (by decide +kernel) (by decide +kernel)
set_option maxRecDepth 20000 in
theorem gX1_two_X1_outside : GoodIn wsX1_two (va_wsS RX1 79 yX1_outside wsX1_outside) := goodIn_app (goodIn_of _ (by decide +kernel)) ggX1_two_X1_outside
set_option maxRecDepth 20000 in
theorem ggX1_two_X1_reckonGains : GoodIn wsX1_two wsX1_reckonGains := goodIn_r _ [24, 25, 6, 26, 27, 28, 10, 29, 30, 31, 32, 33, 34, 35, 36, 37, 38, 39, 12, 40, 41, 42, 43, 44, 45, 46, 47, 48, 49, 50, 51, 52, 53, 8, 9, 11, 54, 4, 55, 56, 57, 58, 59, 60, 61, 62, 63, 64, 65, 66, 67, 68, 69, 70, 71, 72, 73, 74, 75, 76, 81, 82, 83, 84, 85, 86, 87, 88, 89, 90, 91, 92, 93, 94, 95, 96, 97, 98, 99, 100] (by decide +kernel) (by decide +kernel)
set_option maxRecDepth 20000 in
theorem gX1_two_X1_reckonGains : GoodIn wsX1_two (wsV RX1 168 RX1 yX1_reckonGains wsX1_reckonGains) := goodIn_app (goodIn_of _ (by decide +kernel)) ggX1_two_X1_reckonGains
set_option maxRecDepth 20000 in
theorem ggX1_two_X1_gainOf : GoodIn wsX1_two wsX1_gainOf := goodIn_r _ [80, 76, 81, 82, 83, 84, 85, 86, 87, 88, 89, 90, 91, 92] (by decide +kernel) (by decide +kernel)
set_option maxRecDepth 20000 in
theorem gX1_two_X1_gainOf : GoodIn wsX1_two (wsV RX1 172 RX1 yX1_gainOf wsX1_gainOf) := goodIn_app (goodIn_of _ (by decide +kernel)) ggX1_two_X1_gainOf
theorem dX1_two_0 : decode cX1_two 0 = .ok (.aload_n 0, 1) := by decide +kernel
theorem dX1_two_1 : decode cX1_two 1 = .ok (.iload_n 1, 1) := by decide +kernel
theorem dX1_two_2 : decode cX1_two 2 = .ok (.iload_n 2, 1) := by decide +kernel
theorem dX1_two_3 : decode cX1_two 3 = .ok (.invokevirtual 134, 3) := by decide +kernel
theorem dX1_two_6 : decode cX1_two 6 = .ok (.ifCond .ne 9, 3) := by decide +kernel
theorem dX1_two_9 : decode cX1_two 9 = .ok (.aload_n 0, 1) := by decide +kernel
theorem dX1_two_10 : decode cX1_two 10 = .ok (.iconst (-1), 1) := by decide +kernel
theorem dX1_two_11 : decode cX1_two 11 = .ok (.invokevirtual 38, 3) := by decide +kernel
theorem dX1_two_14 : decode cX1_two 14 = .ok (.ireturn, 1) := by decide +kernel
theorem dX1_two_15 : decode cX1_two 15 = .ok (.iload_n 3, 1) := by decide +kernel
theorem dX1_two_16 : decode cX1_two 16 = .ok (.iconst 0, 1) := by decide +kernel
theorem dX1_two_17 : decode cX1_two 17 = .ok (.bipush 30, 2) := by decide +kernel
theorem dX1_two_19 : decode cX1_two 19 = .ok (.invokestatic 79, 3) := by decide +kernel
theorem dX1_two_22 : decode cX1_two 22 = .ok (.istore 4, 2) := by decide +kernel
theorem dX1_two_24 : decode cX1_two 24 = .ok (.iload 4, 2) := by decide +kernel
theorem dX1_two_26 : decode cX1_two 26 = .ok (.ifCond .eq 10, 3) := by decide +kernel
theorem dX1_two_29 : decode cX1_two 29 = .ok (.aload_n 0, 1) := by decide +kernel
theorem dX1_two_30 : decode cX1_two 30 = .ok (.iload 4, 2) := by decide +kernel
theorem dX1_two_32 : decode cX1_two 32 = .ok (.invokevirtual 38, 3) := by decide +kernel
theorem dX1_two_35 : decode cX1_two 35 = .ok (.ireturn, 1) := by decide +kernel
theorem dX1_two_36 : decode cX1_two 36 = .ok (.iconst 0, 1) := by decide +kernel
theorem dX1_two_37 : decode cX1_two 37 = .ok (.istore 5, 2) := by decide +kernel
theorem dX1_two_39 : decode cX1_two 39 = .ok (.iload 5, 2) := by decide +kernel
theorem dX1_two_41 : decode cX1_two 41 = .ok (.iconst 4, 1) := by decide +kernel
theorem dX1_two_42 : decode cX1_two 42 = .ok (.if_icmp .ge 18, 3) := by decide +kernel
theorem dX1_two_45 : decode cX1_two 45 = .ok (.aload_n 0, 1) := by decide +kernel
theorem dX1_two_46 : decode cX1_two 46 = .ok (.iload 5, 2) := by decide +kernel
theorem dX1_two_48 : decode cX1_two 48 = .ok (.iload_n 1, 1) := by decide +kernel
theorem dX1_two_49 : decode cX1_two 49 = .ok (.iload_n 2, 1) := by decide +kernel
theorem dX1_two_50 : decode cX1_two 50 = .ok (.iload_n 3, 1) := by decide +kernel
theorem dX1_two_51 : decode cX1_two 51 = .ok (.invokevirtual 168, 3) := by decide +kernel
theorem dX1_two_54 : decode cX1_two 54 = .ok (.iinc 5 1, 3) := by decide +kernel
theorem dX1_two_57 : decode cX1_two 57 = .ok (.goto (-18), 3) := by decide +kernel
theorem dX1_two_60 : decode cX1_two 60 = .ok (.iconst 0, 1) := by decide +kernel
theorem dX1_two_61 : decode cX1_two 61 = .ok (.istore 5, 2) := by decide +kernel
theorem dX1_two_63 : decode cX1_two 63 = .ok (.iload 5, 2) := by decide +kernel
theorem dX1_two_65 : decode cX1_two 65 = .ok (.iconst 4, 1) := by decide +kernel
theorem dX1_two_66 : decode cX1_two 66 = .ok (.if_icmp .ge 84, 3) := by decide +kernel
theorem dX1_two_69 : decode cX1_two 69 = .ok (.aload_n 0, 1) := by decide +kernel
theorem dX1_two_70 : decode cX1_two 70 = .ok (.iload 5, 2) := by decide +kernel
theorem dX1_two_72 : decode cX1_two 72 = .ok (.iconst 0, 1) := by decide +kernel
theorem dX1_two_73 : decode cX1_two 73 = .ok (.invokevirtual 172, 3) := by decide +kernel
theorem dX1_two_76 : decode cX1_two 76 = .ok (.aload_n 0, 1) := by decide +kernel
theorem dX1_two_77 : decode cX1_two 77 = .ok (.iload 5, 2) := by decide +kernel
theorem dX1_two_79 : decode cX1_two 79 = .ok (.iconst 2, 1) := by decide +kernel
theorem dX1_two_80 : decode cX1_two 80 = .ok (.ixor, 1) := by decide +kernel
theorem dX1_two_81 : decode cX1_two 81 = .ok (.iconst 0, 1) := by decide +kernel
theorem dX1_two_82 : decode cX1_two 82 = .ok (.invokevirtual 172, 3) := by decide +kernel
theorem dX1_two_85 : decode cX1_two 85 = .ok (.if_icmp .lt 7, 3) := by decide +kernel
theorem dX1_two_88 : decode cX1_two 88 = .ok (.iconst 1, 1) := by decide +kernel
theorem dX1_two_89 : decode cX1_two 89 = .ok (.goto 4, 3) := by decide +kernel
theorem dX1_two_92 : decode cX1_two 92 = .ok (.iconst 0, 1) := by decide +kernel
theorem dX1_two_93 : decode cX1_two 93 = .ok (.istore 6, 2) := by decide +kernel
theorem dX1_two_95 : decode cX1_two 95 = .ok (.aload_n 0, 1) := by decide +kernel
theorem dX1_two_96 : decode cX1_two 96 = .ok (.iload 5, 2) := by decide +kernel
theorem dX1_two_98 : decode cX1_two 98 = .ok (.iconst 1, 1) := by decide +kernel
theorem dX1_two_99 : decode cX1_two 99 = .ok (.invokevirtual 172, 3) := by decide +kernel
theorem dX1_two_102 : decode cX1_two 102 = .ok (.aload_n 0, 1) := by decide +kernel
theorem dX1_two_103 : decode cX1_two 103 = .ok (.iload 5, 2) := by decide +kernel
theorem dX1_two_105 : decode cX1_two 105 = .ok (.iconst 1, 1) := by decide +kernel
theorem dX1_two_106 : decode cX1_two 106 = .ok (.ixor, 1) := by decide +kernel
theorem dX1_two_107 : decode cX1_two 107 = .ok (.iconst 1, 1) := by decide +kernel
theorem dX1_two_108 : decode cX1_two 108 = .ok (.invokevirtual 172, 3) := by decide +kernel
theorem dX1_two_111 : decode cX1_two 111 = .ok (.if_icmp .lt 7, 3) := by decide +kernel
theorem dX1_two_114 : decode cX1_two 114 = .ok (.iconst 1, 1) := by decide +kernel
theorem dX1_two_115 : decode cX1_two 115 = .ok (.goto 4, 3) := by decide +kernel
theorem dX1_two_118 : decode cX1_two 118 = .ok (.iconst 0, 1) := by decide +kernel
theorem dX1_two_119 : decode cX1_two 119 = .ok (.istore 7, 2) := by decide +kernel
theorem dX1_two_121 : decode cX1_two 121 = .ok (.iload 6, 2) := by decide +kernel
theorem dX1_two_123 : decode cX1_two 123 = .ok (.ifCond .eq 21, 3) := by decide +kernel
theorem dX1_two_126 : decode cX1_two 126 = .ok (.iload 7, 2) := by decide +kernel
theorem dX1_two_128 : decode cX1_two 128 = .ok (.ifCond .eq 16, 3) := by decide +kernel
theorem dX1_two_131 : decode cX1_two 131 = .ok (.bipush 10, 2) := by decide +kernel
theorem dX1_two_133 : decode cX1_two 133 = .ok (.iload 5, 2) := by decide +kernel
theorem dX1_two_135 : decode cX1_two 135 = .ok (.iconst 1, 1) := by decide +kernel
theorem dX1_two_136 : decode cX1_two 136 = .ok (.ishr, 1) := by decide +kernel
theorem dX1_two_137 : decode cX1_two 137 = .ok (.imul, 1) := by decide +kernel
theorem dX1_two_138 : decode cX1_two 138 = .ok (.iload 5, 2) := by decide +kernel
theorem dX1_two_140 : decode cX1_two 140 = .ok (.iconst 1, 1) := by decide +kernel
theorem dX1_two_141 : decode cX1_two 141 = .ok (.iand, 1) := by decide +kernel
theorem dX1_two_142 : decode cX1_two 142 = .ok (.iadd, 1) := by decide +kernel
theorem dX1_two_143 : decode cX1_two 143 = .ok (.ireturn, 1) := by decide +kernel
theorem dX1_two_144 : decode cX1_two 144 = .ok (.iinc 5 1, 3) := by decide +kernel
theorem dX1_two_147 : decode cX1_two 147 = .ok (.goto (-84), 3) := by decide +kernel
theorem dX1_two_150 : decode cX1_two 150 = .ok (.bipush (-9), 2) := by decide +kernel
theorem dX1_two_152 : decode cX1_two 152 = .ok (.ireturn, 1) := by decide +kernel
set_option maxRecDepth 20000 in
theorem ggX1_steam_X0_has : GoodIn wsX1_steam wsX0_has := goodIn_r _ [7, 8, 82, 83, 84, 85, 86, 87, 88, 89] (by decide +kernel) (by decide +kernel)
set_option maxRecDepth 20000 in
theorem gX1_steam_X0_has : GoodIn wsX1_steam (wsV RX1 66 RX0 yX0_has wsX0_has) := goodIn_app (goodIn_of _ (by decide +kernel)) ggX1_steam_X0_has
set_option maxRecDepth 20000 in
theorem ggX1_steam_X1_isNode : GoodIn wsX1_steam wsX1_isNode := goodIn_r _ [12] (by decide +kernel) (by decide +kernel)
set_option maxRecDepth 20000 in
theorem gX1_steam_X1_isNode : GoodIn wsX1_steam (va_wsS RX1 53 yX1_isNode wsX1_isNode) := goodIn_app (goodIn_of _ (by decide +kernel)) ggX1_steam_X1_isNode
set_option maxRecDepth 20000 in
theorem ggX1_steam_X1_refuseLong : GoodIn wsX1_steam wsX1_refuseLong := goodIn_r _ [16, 17, 18, 19, 20, 11, 21, 22, 70, 71, 72, 73, 74, 75, 76, 77, 78, 79, 80, 81] (by decide +kernel) (by decide +kernel)
set_option maxRecDepth 20000 in
theorem gX1_steam_X1_refuseLong : GoodIn wsX1_steam (wsV RX1 175 RX1 yX1_refuseLong wsX1_refuseLong) := goodIn_app (goodIn_of _ (by decide +kernel)) ggX1_steam_X1_refuseLong
set_option maxRecDepth 20000 in
theorem ggX1_steam_X1_weightInSteam : GoodIn wsX1_steam wsX1_weightInSteam := goodIn_r _ [26, 2, 1, 27, 28, 29, 6, 30, 31, 32, 33, 34, 35, 36, 37, 38, 39, 40, 8, 41, 42, 43, 44, 45, 46, 47, 48, 49, 50, 51, 52, 53, 54, 4, 5, 7, 10, 11, 12, 55, 56, 57, 58, 59, 70, 71, 72, 73, 74, 75, 76, 77, 78, 79, 80, 81, 82, 83, 84, 85, 86, 87, 88, 89] (by decide +kernel) (by decide +kernel)
set_option maxRecDepth 20000 in
theorem gX1_steam_X1_weightInSteam : GoodIn wsX1_steam (wsV RX1 179 RX1 yX1_weightInSteam wsX1_weightInSteam) := goodIn_app (goodIn_of _ (by decide +kernel)) ggX1_steam_X1_weightInSteam
set_option maxRecDepth 20000 in
theorem ggX1_steam_X0_placeOf : GoodIn wsX1_steam wsX0_placeOf := goodIn_r _ [63, 38, 54, 4, 5, 6, 7, 8, 82, 83, 84, 85, 86, 87, 88, 89] (by decide +kernel) (by decide +kernel)
set_option maxRecDepth 20000 in
theorem gX1_steam_X0_placeOf : GoodIn wsX1_steam (wsV RX1 109 RX0 yX0_placeOf wsX0_placeOf) := goodIn_app (goodIn_of _ (by decide +kernel)) ggX1_steam_X0_placeOf
set_option maxRecDepth 20000 in
theorem ggX1_steam_X1_partOf : GoodIn wsX1_steam wsX1_partOf := goodIn_r _ [66, 67, 68, 11, 69] (by decide +kernel) (by decide +kernel)
set_option maxRecDepth 20000 in
theorem gX1_steam_X1_partOf : GoodIn wsX1_steam (va_wsS RX1 183 yX1_partOf wsX1_partOf) := goodIn_app (goodIn_of _ (by decide +kernel)) ggX1_steam_X1_partOf
theorem dX1_steam_0 : decode cX1_steam 0 = .ok (.aload_n 0, 1) := by decide +kernel
theorem dX1_steam_1 : decode cX1_steam 1 = .ok (.getfield 10, 3) := by decide +kernel
theorem dX1_steam_4 : decode cX1_steam 4 = .ok (.iload_n 1, 1) := by decide +kernel
theorem dX1_steam_5 : decode cX1_steam 5 = .ok (.invokevirtual 66, 3) := by decide +kernel
theorem dX1_steam_8 : decode cX1_steam 8 = .ok (.ifCond .eq 10, 3) := by decide +kernel
theorem dX1_steam_11 : decode cX1_steam 11 = .ok (.iload_n 2, 1) := by decide +kernel
theorem dX1_steam_12 : decode cX1_steam 12 = .ok (.invokestatic 53, 3) := by decide +kernel
theorem dX1_steam_15 : decode cX1_steam 15 = .ok (.ifCond .ne 9, 3) := by decide +kernel
theorem dX1_steam_18 : decode cX1_steam 18 = .ok (.aload_n 0, 1) := by decide +kernel
theorem dX1_steam_19 : decode cX1_steam 19 = .ok (.iconst (-1), 1) := by decide +kernel
theorem dX1_steam_20 : decode cX1_steam 20 = .ok (.invokevirtual 175, 3) := by decide +kernel
theorem dX1_steam_23 : decode cX1_steam 23 = .ok (.lreturn, 1) := by decide +kernel
theorem dX1_steam_24 : decode cX1_steam 24 = .ok (.iload_n 3, 1) := by decide +kernel
theorem dX1_steam_25 : decode cX1_steam 25 = .ok (.ifCond .lt 9, 3) := by decide +kernel
theorem dX1_steam_28 : decode cX1_steam 28 = .ok (.iload 4, 2) := by decide +kernel
theorem dX1_steam_30 : decode cX1_steam 30 = .ok (.iconst 2, 1) := by decide +kernel
theorem dX1_steam_31 : decode cX1_steam 31 = .ok (.if_icmp .ge 10, 3) := by decide +kernel
theorem dX1_steam_34 : decode cX1_steam 34 = .ok (.aload_n 0, 1) := by decide +kernel
theorem dX1_steam_35 : decode cX1_steam 35 = .ok (.bipush (-4), 2) := by decide +kernel
theorem dX1_steam_37 : decode cX1_steam 37 = .ok (.invokevirtual 175, 3) := by decide +kernel
theorem dX1_steam_40 : decode cX1_steam 40 = .ok (.lreturn, 1) := by decide +kernel
theorem dX1_steam_41 : decode cX1_steam 41 = .ok (.iload_n 3, 1) := by decide +kernel
theorem dX1_steam_42 : decode cX1_steam 42 = .ok (.bipush 7, 2) := by decide +kernel
theorem dX1_steam_44 : decode cX1_steam 44 = .ok (.if_icmp .gt 10, 3) := by decide +kernel
theorem dX1_steam_47 : decode cX1_steam 47 = .ok (.iload 4, 2) := by decide +kernel
theorem dX1_steam_49 : decode cX1_steam 49 = .ok (.bipush 20, 2) := by decide +kernel
theorem dX1_steam_51 : decode cX1_steam 51 = .ok (.if_icmp .le 10, 3) := by decide +kernel
theorem dX1_steam_54 : decode cX1_steam 54 = .ok (.aload_n 0, 1) := by decide +kernel
theorem dX1_steam_55 : decode cX1_steam 55 = .ok (.bipush (-6), 2) := by decide +kernel
theorem dX1_steam_57 : decode cX1_steam 57 = .ok (.invokevirtual 175, 3) := by decide +kernel
theorem dX1_steam_60 : decode cX1_steam 60 = .ok (.lreturn, 1) := by decide +kernel
theorem dX1_steam_61 : decode cX1_steam 61 = .ok (.iload 5, 2) := by decide +kernel
theorem dX1_steam_63 : decode cX1_steam 63 = .ok (.ifCond .lt 9, 3) := by decide +kernel
theorem dX1_steam_66 : decode cX1_steam 66 = .ok (.iload 5, 2) := by decide +kernel
theorem dX1_steam_68 : decode cX1_steam 68 = .ok (.iconst 1, 1) := by decide +kernel
theorem dX1_steam_69 : decode cX1_steam 69 = .ok (.if_icmp .le 10, 3) := by decide +kernel
theorem dX1_steam_72 : decode cX1_steam 72 = .ok (.aload_n 0, 1) := by decide +kernel
theorem dX1_steam_73 : decode cX1_steam 73 = .ok (.bipush (-2), 2) := by decide +kernel
theorem dX1_steam_75 : decode cX1_steam 75 = .ok (.invokevirtual 175, 3) := by decide +kernel
theorem dX1_steam_78 : decode cX1_steam 78 = .ok (.lreturn, 1) := by decide +kernel
theorem dX1_steam_79 : decode cX1_steam 79 = .ok (.lconst 0, 1) := by decide +kernel
theorem dX1_steam_80 : decode cX1_steam 80 = .ok (.lstore 6, 2) := by decide +kernel
theorem dX1_steam_82 : decode cX1_steam 82 = .ok (.iconst 0, 1) := by decide +kernel
theorem dX1_steam_83 : decode cX1_steam 83 = .ok (.istore 8, 2) := by decide +kernel
theorem dX1_steam_85 : decode cX1_steam 85 = .ok (.iload 8, 2) := by decide +kernel
theorem dX1_steam_87 : decode cX1_steam 87 = .ok (.iconst 1, 1) := by decide +kernel
theorem dX1_steam_88 : decode cX1_steam 88 = .ok (.iload_n 3, 1) := by decide +kernel
theorem dX1_steam_89 : decode cX1_steam 89 = .ok (.ishl, 1) := by decide +kernel
theorem dX1_steam_90 : decode cX1_steam 90 = .ok (.if_icmp .ge 39, 3) := by decide +kernel
theorem dX1_steam_93 : decode cX1_steam 93 = .ok (.aload_n 0, 1) := by decide +kernel
theorem dX1_steam_94 : decode cX1_steam 94 = .ok (.iload_n 3, 1) := by decide +kernel
theorem dX1_steam_95 : decode cX1_steam 95 = .ok (.iload 4, 2) := by decide +kernel
theorem dX1_steam_97 : decode cX1_steam 97 = .ok (.iload 8, 2) := by decide +kernel
theorem dX1_steam_99 : decode cX1_steam 99 = .ok (.invokevirtual 179, 3) := by decide +kernel
theorem dX1_steam_102 : decode cX1_steam 102 = .ok (.lstore 9, 2) := by decide +kernel
theorem dX1_steam_104 : decode cX1_steam 104 = .ok (.aload_n 0, 1) := by decide +kernel
theorem dX1_steam_105 : decode cX1_steam 105 = .ok (.getfield 16, 3) := by decide +kernel
theorem dX1_steam_108 : decode cX1_steam 108 = .ok (.iload_n 1, 1) := by decide +kernel
theorem dX1_steam_109 : decode cX1_steam 109 = .ok (.invokevirtual 109, 3) := by decide +kernel
theorem dX1_steam_112 : decode cX1_steam 112 = .ok (.iload_n 2, 1) := by decide +kernel
theorem dX1_steam_113 : decode cX1_steam 113 = .ok (.if_icmp .ne 10, 3) := by decide +kernel
theorem dX1_steam_116 : decode cX1_steam 116 = .ok (.lload 6, 2) := by decide +kernel
theorem dX1_steam_118 : decode cX1_steam 118 = .ok (.lload 9, 2) := by decide +kernel
theorem dX1_steam_120 : decode cX1_steam 120 = .ok (.ladd, 1) := by decide +kernel
theorem dX1_steam_121 : decode cX1_steam 121 = .ok (.lstore 6, 2) := by decide +kernel
theorem dX1_steam_123 : decode cX1_steam 123 = .ok (.iinc 8 1, 3) := by decide +kernel
theorem dX1_steam_126 : decode cX1_steam 126 = .ok (.goto (-41), 3) := by decide +kernel
theorem dX1_steam_129 : decode cX1_steam 129 = .ok (.lconst 1, 1) := by decide +kernel
theorem dX1_steam_130 : decode cX1_steam 130 = .ok (.lstore 8, 2) := by decide +kernel
theorem dX1_steam_132 : decode cX1_steam 132 = .ok (.iconst 0, 1) := by decide +kernel
theorem dX1_steam_133 : decode cX1_steam 133 = .ok (.istore 10, 2) := by decide +kernel
theorem dX1_steam_135 : decode cX1_steam 135 = .ok (.iload 10, 2) := by decide +kernel
theorem dX1_steam_137 : decode cX1_steam 137 = .ok (.iload_n 3, 1) := by decide +kernel
theorem dX1_steam_138 : decode cX1_steam 138 = .ok (.if_icmp .ge 17, 3) := by decide +kernel
theorem dX1_steam_141 : decode cX1_steam 141 = .ok (.lload 8, 2) := by decide +kernel
theorem dX1_steam_143 : decode cX1_steam 143 = .ok (.iload 4, 2) := by decide +kernel
theorem dX1_steam_145 : decode cX1_steam 145 = .ok (.i2l, 1) := by decide +kernel
theorem dX1_steam_146 : decode cX1_steam 146 = .ok (.lmul, 1) := by decide +kernel
theorem dX1_steam_147 : decode cX1_steam 147 = .ok (.lstore 8, 2) := by decide +kernel
theorem dX1_steam_149 : decode cX1_steam 149 = .ok (.iinc 10 1, 3) := by decide +kernel
theorem dX1_steam_152 : decode cX1_steam 152 = .ok (.goto (-17), 3) := by decide +kernel
theorem dX1_steam_155 : decode cX1_steam 155 = .ok (.lload 6, 2) := by decide +kernel
theorem dX1_steam_157 : decode cX1_steam 157 = .ok (.lload 8, 2) := by decide +kernel
theorem dX1_steam_159 : decode cX1_steam 159 = .ok (.iload 5, 2) := by decide +kernel
theorem dX1_steam_161 : decode cX1_steam 161 = .ok (.invokestatic 183, 3) := by decide +kernel
theorem dX1_steam_164 : decode cX1_steam 164 = .ok (.lreturn, 1) := by decide +kernel
set_option maxRecDepth 20000 in
theorem ggX1_mean_X1_refuseLong : GoodIn wsX1_mean wsX1_refuseLong := goodIn_r _ [7, 8, 9, 10, 11, 6, 12, 13, 36, 37, 38, 39, 40, 41, 42, 43, 44, 45, 46, 47] (by decide +kernel) (by decide +kernel)
set_option maxRecDepth 20000 in
theorem gX1_mean_X1_refuseLong : GoodIn wsX1_mean (wsV RX1 175 RX1 yX1_refuseLong wsX1_refuseLong) := goodIn_app (goodIn_of _ (by decide +kernel)) ggX1_mean_X1_refuseLong
set_option maxRecDepth 20000 in
theorem ggX1_mean_X0_allWet : GoodIn wsX1_mean wsX0_allWet := goodIn_r _ [18, 19, 20, 21, 17, 22, 23, 24, 25, 26, 27, 28, 6, 29, 48, 49, 50, 51, 52, 53, 54, 55] (by decide +kernel) (by decide +kernel)
set_option maxRecDepth 20000 in
theorem gX1_mean_X0_allWet : GoodIn wsX1_mean (wsV RX1 121 RX0 yX0_allWet wsX0_allWet) := goodIn_app (goodIn_of _ (by decide +kernel)) ggX1_mean_X0_allWet
set_option maxRecDepth 20000 in
theorem ggX1_mean_X1_partOf : GoodIn wsX1_mean wsX1_partOf := goodIn_r _ [32, 33, 34, 6, 35] (by decide +kernel) (by decide +kernel)
set_option maxRecDepth 20000 in
theorem gX1_mean_X1_partOf : GoodIn wsX1_mean (va_wsS RX1 183 yX1_partOf wsX1_partOf) := goodIn_app (goodIn_of _ (by decide +kernel)) ggX1_mean_X1_partOf
theorem dX1_mean_0 : decode cX1_mean 0 = .ok (.iload_n 1, 1) := by decide +kernel
theorem dX1_mean_1 : decode cX1_mean 1 = .ok (.ifCond .lt 8, 3) := by decide +kernel
theorem dX1_mean_4 : decode cX1_mean 4 = .ok (.iload_n 1, 1) := by decide +kernel
theorem dX1_mean_5 : decode cX1_mean 5 = .ok (.iconst 1, 1) := by decide +kernel
theorem dX1_mean_6 : decode cX1_mean 6 = .ok (.if_icmp .le 10, 3) := by decide +kernel
theorem dX1_mean_9 : decode cX1_mean 9 = .ok (.aload_n 0, 1) := by decide +kernel
theorem dX1_mean_10 : decode cX1_mean 10 = .ok (.bipush (-2), 2) := by decide +kernel
theorem dX1_mean_12 : decode cX1_mean 12 = .ok (.invokevirtual 175, 3) := by decide +kernel
theorem dX1_mean_15 : decode cX1_mean 15 = .ok (.lreturn, 1) := by decide +kernel
theorem dX1_mean_16 : decode cX1_mean 16 = .ok (.aload_n 0, 1) := by decide +kernel
theorem dX1_mean_17 : decode cX1_mean 17 = .ok (.getfield 10, 3) := by decide +kernel
theorem dX1_mean_20 : decode cX1_mean 20 = .ok (.invokevirtual 121, 3) := by decide +kernel
theorem dX1_mean_23 : decode cX1_mean 23 = .ok (.i2l, 1) := by decide +kernel
theorem dX1_mean_24 : decode cX1_mean 24 = .ok (.ldc2_w 187, 3) := by decide +kernel
theorem dX1_mean_27 : decode cX1_mean 27 = .ok (.iload_n 1, 1) := by decide +kernel
theorem dX1_mean_28 : decode cX1_mean 28 = .ok (.invokestatic 183, 3) := by decide +kernel
theorem dX1_mean_31 : decode cX1_mean 31 = .ok (.lreturn, 1) := by decide +kernel
set_option maxRecDepth 20000 in
theorem ggX1_whatIs_X1_isNode : GoodIn wsX1_whatIs wsX1_isNode := goodIn_r _ [6] (by decide +kernel) (by decide +kernel)
set_option maxRecDepth 20000 in
theorem gX1_whatIs_X1_isNode : GoodIn wsX1_whatIs (va_wsS RX1 53 yX1_isNode wsX1_isNode) := goodIn_app (goodIn_of _ (by decide +kernel)) ggX1_whatIs_X1_isNode
set_option maxRecDepth 20000 in
theorem ggX1_whatIs_X0_has : GoodIn wsX1_whatIs wsX0_has := goodIn_r _ [11, 12, 85, 86, 87, 88, 89, 90, 91, 92] (by decide +kernel) (by decide +kernel)
set_option maxRecDepth 20000 in
theorem gX1_whatIs_X0_has : GoodIn wsX1_whatIs (wsV RX1 66 RX0 yX0_has wsX0_has) := goodIn_app (goodIn_of _ (by decide +kernel)) ggX1_whatIs_X0_has
set_option maxRecDepth 20000 in
theorem ggX1_whatIs_X1_refuse : GoodIn wsX1_whatIs wsX1_refuse := goodIn_r _ [16, 17, 73, 74, 75, 76, 77, 78, 79, 80, 81, 82, 83, 84] (by decide +kernel) (by decide +kernel)
set_option maxRecDepth 20000 in
theorem gX1_whatIs_X1_refuse : GoodIn wsX1_whatIs (wsV RX1 38 RX1 yX1_refuse wsX1_refuse) := goodIn_app (goodIn_of _ (by decide +kernel)) ggX1_whatIs_X1_refuse
set_option maxRecDepth 20000 in
theorem ggX1_whatIs_X0_becomes : GoodIn wsX1_whatIs wsX0_becomes := goodIn_r _ [21, 22, 23, 24, 25, 26, 27, 28, 29, 30, 31, 12, 32, 85, 86, 87, 88, 89, 90, 91, 92] (by decide +kernel) (by decide +kernel)
set_option maxRecDepth 20000 in
theorem gX1_whatIs_X0_becomes : GoodIn wsX1_whatIs (wsV RX1 124 RX0 yX0_becomes wsX0_becomes) := goodIn_app (goodIn_of _ (by decide +kernel)) ggX1_whatIs_X0_becomes
set_option maxRecDepth 20000 in
theorem ggX1_whatIs_X0_putKind : GoodIn wsX1_whatIs wsX0_putKind := goodIn_r _ [36, 22, 4, 5, 6, 85, 86, 87, 88, 89, 90, 91, 92] (by decide +kernel) (by decide +kernel)
set_option maxRecDepth 20000 in
theorem gX1_whatIs_X0_putKind : GoodIn wsX1_whatIs (wsV RX1 83 RX0 yX0_putKind wsX0_putKind) := goodIn_app (goodIn_of _ (by decide +kernel)) ggX1_whatIs_X0_putKind
set_option maxRecDepth 20000 in
theorem ggX1_whatIs_X0_putFigure : GoodIn wsX1_whatIs wsX0_putFigure := goodIn_r _ [40, 27, 4, 5, 6, 85, 86, 87, 88, 89, 90, 91, 92] (by decide +kernel) (by decide +kernel)
set_option maxRecDepth 20000 in
theorem gX1_whatIs_X0_putFigure : GoodIn wsX1_whatIs (wsV RX1 87 RX0 yX0_putFigure wsX0_putFigure) := goodIn_app (goodIn_of _ (by decide +kernel)) ggX1_whatIs_X0_putFigure
set_option maxRecDepth 20000 in
theorem ggX1_whatIs_X1_isAsTold : GoodIn wsX1_whatIs wsX1_isAsTold := goodIn_r _ [44, 45, 2, 46, 47, 48, 10, 49, 32, 12, 50, 51, 52, 53, 29, 28, 22, 27, 30, 31, 54, 55, 56, 57, 58, 8, 9, 11, 4, 5, 6, 59, 60, 61, 62, 63, 64, 65, 66, 67, 68, 69, 70, 71, 72, 73, 74, 75, 76, 77, 78, 79, 80, 81, 82, 83, 84, 85, 86, 87, 88, 89, 90, 91, 92] (by decide +kernel) (by decide +kernel)
set_option maxRecDepth 20000 in
theorem gX1_whatIs_X1_isAsTold : GoodIn wsX1_whatIs (wsV RX1 189 RX1 yX1_isAsTold wsX1_isAsTold) := goodIn_app (goodIn_of _ (by decide +kernel)) ggX1_whatIs_X1_isAsTold
theorem dX1_whatIs_0 : decode cX1_whatIs 0 = .ok (.iload_n 1, 1) := by decide +kernel
theorem dX1_whatIs_1 : decode cX1_whatIs 1 = .ok (.invokestatic 53, 3) := by decide +kernel
theorem dX1_whatIs_4 : decode cX1_whatIs 4 = .ok (.ifCond .eq 14, 3) := by decide +kernel
theorem dX1_whatIs_7 : decode cX1_whatIs 7 = .ok (.aload_n 0, 1) := by decide +kernel
theorem dX1_whatIs_8 : decode cX1_whatIs 8 = .ok (.getfield 10, 3) := by decide +kernel
theorem dX1_whatIs_11 : decode cX1_whatIs 11 = .ok (.iload_n 2, 1) := by decide +kernel
theorem dX1_whatIs_12 : decode cX1_whatIs 12 = .ok (.invokevirtual 66, 3) := by decide +kernel
theorem dX1_whatIs_15 : decode cX1_whatIs 15 = .ok (.ifCond .ne 9, 3) := by decide +kernel
theorem dX1_whatIs_18 : decode cX1_whatIs 18 = .ok (.aload_n 0, 1) := by decide +kernel
theorem dX1_whatIs_19 : decode cX1_whatIs 19 = .ok (.iconst (-1), 1) := by decide +kernel
theorem dX1_whatIs_20 : decode cX1_whatIs 20 = .ok (.invokevirtual 38, 3) := by decide +kernel
theorem dX1_whatIs_23 : decode cX1_whatIs 23 = .ok (.ireturn, 1) := by decide +kernel
theorem dX1_whatIs_24 : decode cX1_whatIs 24 = .ok (.iload_n 3, 1) := by decide +kernel
theorem dX1_whatIs_25 : decode cX1_whatIs 25 = .ok (.ifCond .lt 8, 3) := by decide +kernel
theorem dX1_whatIs_28 : decode cX1_whatIs 28 = .ok (.iload_n 3, 1) := by decide +kernel
theorem dX1_whatIs_29 : decode cX1_whatIs 29 = .ok (.iconst 1, 1) := by decide +kernel
theorem dX1_whatIs_30 : decode cX1_whatIs 30 = .ok (.if_icmp .le 10, 3) := by decide +kernel
theorem dX1_whatIs_33 : decode cX1_whatIs 33 = .ok (.aload_n 0, 1) := by decide +kernel
theorem dX1_whatIs_34 : decode cX1_whatIs 34 = .ok (.bipush (-2), 2) := by decide +kernel
theorem dX1_whatIs_36 : decode cX1_whatIs 36 = .ok (.invokevirtual 38, 3) := by decide +kernel
theorem dX1_whatIs_39 : decode cX1_whatIs 39 = .ok (.ireturn, 1) := by decide +kernel
theorem dX1_whatIs_40 : decode cX1_whatIs 40 = .ok (.iconst 0, 1) := by decide +kernel
theorem dX1_whatIs_41 : decode cX1_whatIs 41 = .ok (.istore 4, 2) := by decide +kernel
theorem dX1_whatIs_43 : decode cX1_whatIs 43 = .ok (.iload_n 3, 1) := by decide +kernel
theorem dX1_whatIs_44 : decode cX1_whatIs 44 = .ok (.ifCond .ne 7, 3) := by decide +kernel
theorem dX1_whatIs_47 : decode cX1_whatIs 47 = .ok (.iconst 5, 1) := by decide +kernel
theorem dX1_whatIs_48 : decode cX1_whatIs 48 = .ok (.goto 5, 3) := by decide +kernel
theorem dX1_whatIs_51 : decode cX1_whatIs 51 = .ok (.bipush 9, 2) := by decide +kernel
theorem dX1_whatIs_53 : decode cX1_whatIs 53 = .ok (.istore 5, 2) := by decide +kernel
theorem dX1_whatIs_55 : decode cX1_whatIs 55 = .ok (.iconst 0, 1) := by decide +kernel
theorem dX1_whatIs_56 : decode cX1_whatIs 56 = .ok (.istore 6, 2) := by decide +kernel
theorem dX1_whatIs_58 : decode cX1_whatIs 58 = .ok (.iload 6, 2) := by decide +kernel
theorem dX1_whatIs_60 : decode cX1_whatIs 60 = .ok (.iload 5, 2) := by decide +kernel
theorem dX1_whatIs_62 : decode cX1_whatIs 62 = .ok (.if_icmp .gt 64, 3) := by decide +kernel
theorem dX1_whatIs_65 : decode cX1_whatIs 65 = .ok (.aload_n 0, 1) := by decide +kernel
theorem dX1_whatIs_66 : decode cX1_whatIs 66 = .ok (.getfield 16, 3) := by decide +kernel
theorem dX1_whatIs_69 : decode cX1_whatIs 69 = .ok (.aload_n 0, 1) := by decide +kernel
theorem dX1_whatIs_70 : decode cX1_whatIs 70 = .ok (.getfield 10, 3) := by decide +kernel
theorem dX1_whatIs_73 : decode cX1_whatIs 73 = .ok (.invokevirtual 124, 3) := by decide +kernel
theorem dX1_whatIs_76 : decode cX1_whatIs 76 = .ok (.iload_n 3, 1) := by decide +kernel
theorem dX1_whatIs_77 : decode cX1_whatIs 77 = .ok (.ifCond .ne 16, 3) := by decide +kernel
theorem dX1_whatIs_80 : decode cX1_whatIs 80 = .ok (.aload_n 0, 1) := by decide +kernel
theorem dX1_whatIs_81 : decode cX1_whatIs 81 = .ok (.getfield 16, 3) := by decide +kernel
theorem dX1_whatIs_84 : decode cX1_whatIs 84 = .ok (.iload_n 1, 1) := by decide +kernel
theorem dX1_whatIs_85 : decode cX1_whatIs 85 = .ok (.iload 6, 2) := by decide +kernel
theorem dX1_whatIs_87 : decode cX1_whatIs 87 = .ok (.invokevirtual 83, 3) := by decide +kernel
theorem dX1_whatIs_90 : decode cX1_whatIs 90 = .ok (.goto 13, 3) := by decide +kernel
theorem dX1_whatIs_93 : decode cX1_whatIs 93 = .ok (.aload_n 0, 1) := by decide +kernel
theorem dX1_whatIs_94 : decode cX1_whatIs 94 = .ok (.getfield 16, 3) := by decide +kernel
theorem dX1_whatIs_97 : decode cX1_whatIs 97 = .ok (.iload_n 1, 1) := by decide +kernel
theorem dX1_whatIs_98 : decode cX1_whatIs 98 = .ok (.iload 6, 2) := by decide +kernel
theorem dX1_whatIs_100 : decode cX1_whatIs 100 = .ok (.invokevirtual 87, 3) := by decide +kernel
theorem dX1_whatIs_103 : decode cX1_whatIs 103 = .ok (.aload_n 0, 1) := by decide +kernel
theorem dX1_whatIs_104 : decode cX1_whatIs 104 = .ok (.iload_n 2, 1) := by decide +kernel
theorem dX1_whatIs_105 : decode cX1_whatIs 105 = .ok (.invokevirtual 189, 3) := by decide +kernel
theorem dX1_whatIs_108 : decode cX1_whatIs 108 = .ok (.ifCond .eq 12, 3) := by decide +kernel
theorem dX1_whatIs_111 : decode cX1_whatIs 111 = .ok (.iload 4, 2) := by decide +kernel
theorem dX1_whatIs_113 : decode cX1_whatIs 113 = .ok (.iconst 1, 1) := by decide +kernel
theorem dX1_whatIs_114 : decode cX1_whatIs 114 = .ok (.iload 6, 2) := by decide +kernel
theorem dX1_whatIs_116 : decode cX1_whatIs 116 = .ok (.ishl, 1) := by decide +kernel
theorem dX1_whatIs_117 : decode cX1_whatIs 117 = .ok (.ior, 1) := by decide +kernel
theorem dX1_whatIs_118 : decode cX1_whatIs 118 = .ok (.istore 4, 2) := by decide +kernel
theorem dX1_whatIs_120 : decode cX1_whatIs 120 = .ok (.iinc 6 1, 3) := by decide +kernel
theorem dX1_whatIs_123 : decode cX1_whatIs 123 = .ok (.goto (-65), 3) := by decide +kernel
theorem dX1_whatIs_126 : decode cX1_whatIs 126 = .ok (.iload 4, 2) := by decide +kernel
theorem dX1_whatIs_128 : decode cX1_whatIs 128 = .ok (.ireturn, 1) := by decide +kernel
set_option maxRecDepth 20000 in
theorem ggX1_row_X1_refuse : GoodIn wsX1_row wsX1_refuse := goodIn_r _ [7, 8, 9, 10, 11, 12, 13, 14, 15, 16, 17, 18, 19, 20] (by decide +kernel) (by decide +kernel)
set_option maxRecDepth 20000 in
theorem gX1_row_X1_refuse : GoodIn wsX1_row (wsV RX1 38 RX1 yX1_refuse wsX1_refuse) := goodIn_app (goodIn_of _ (by decide +kernel)) ggX1_row_X1_refuse
theorem dX1_row_0 : decode cX1_row 0 = .ok (.iload_n 1, 1) := by decide +kernel
theorem dX1_row_1 : decode cX1_row 1 = .ok (.ifCond .ge 10, 3) := by decide +kernel
theorem dX1_row_4 : decode cX1_row 4 = .ok (.aload_n 0, 1) := by decide +kernel
theorem dX1_row_5 : decode cX1_row 5 = .ok (.bipush (-4), 2) := by decide +kernel
theorem dX1_row_7 : decode cX1_row 7 = .ok (.invokevirtual 38, 3) := by decide +kernel
theorem dX1_row_10 : decode cX1_row 10 = .ok (.ireturn, 1) := by decide +kernel
theorem dX1_row_11 : decode cX1_row 11 = .ok (.iload_n 1, 1) := by decide +kernel
theorem dX1_row_12 : decode cX1_row 12 = .ok (.bipush 99, 2) := by decide +kernel
theorem dX1_row_14 : decode cX1_row 14 = .ok (.if_icmp .gt 12, 3) := by decide +kernel
theorem dX1_row_17 : decode cX1_row 17 = .ok (.aload_n 0, 1) := by decide +kernel
theorem dX1_row_18 : decode cX1_row 18 = .ok (.getfield 192, 3) := by decide +kernel
theorem dX1_row_21 : decode cX1_row 21 = .ok (.bipush 16, 2) := by decide +kernel
theorem dX1_row_23 : decode cX1_row 23 = .ok (.if_icmp .lt 10, 3) := by decide +kernel
theorem dX1_row_26 : decode cX1_row 26 = .ok (.aload_n 0, 1) := by decide +kernel
theorem dX1_row_27 : decode cX1_row 27 = .ok (.bipush (-6), 2) := by decide +kernel
theorem dX1_row_29 : decode cX1_row 29 = .ok (.invokevirtual 38, 3) := by decide +kernel
theorem dX1_row_32 : decode cX1_row 32 = .ok (.ireturn, 1) := by decide +kernel
theorem dX1_row_33 : decode cX1_row 33 = .ok (.aload_n 0, 1) := by decide +kernel
theorem dX1_row_34 : decode cX1_row 34 = .ok (.getfield 192, 3) := by decide +kernel
theorem dX1_row_37 : decode cX1_row 37 = .ok (.ifCond .lt 25, 3) := by decide +kernel
theorem dX1_row_40 : decode cX1_row 40 = .ok (.aload_n 0, 1) := by decide +kernel
theorem dX1_row_41 : decode cX1_row 41 = .ok (.getfield 192, 3) := by decide +kernel
theorem dX1_row_44 : decode cX1_row 44 = .ok (.aload_n 0, 1) := by decide +kernel
theorem dX1_row_45 : decode cX1_row 45 = .ok (.getfield 26, 3) := by decide +kernel
theorem dX1_row_48 : decode cX1_row 48 = .ok (.arraylength, 1) := by decide +kernel
theorem dX1_row_49 : decode cX1_row 49 = .ok (.if_icmp .ge 13, 3) := by decide +kernel
theorem dX1_row_52 : decode cX1_row 52 = .ok (.aload_n 0, 1) := by decide +kernel
theorem dX1_row_53 : decode cX1_row 53 = .ok (.getfield 26, 3) := by decide +kernel
theorem dX1_row_56 : decode cX1_row 56 = .ok (.aload_n 0, 1) := by decide +kernel
theorem dX1_row_57 : decode cX1_row 57 = .ok (.getfield 192, 3) := by decide +kernel
theorem dX1_row_60 : decode cX1_row 60 = .ok (.iload_n 1, 1) := by decide +kernel
theorem dX1_row_61 : decode cX1_row 61 = .ok (.iastore, 1) := by decide +kernel
theorem dX1_row_62 : decode cX1_row 62 = .ok (.aload_n 0, 1) := by decide +kernel
theorem dX1_row_63 : decode cX1_row 63 = .ok (.dup, 1) := by decide +kernel
theorem dX1_row_64 : decode cX1_row 64 = .ok (.getfield 192, 3) := by decide +kernel
theorem dX1_row_67 : decode cX1_row 67 = .ok (.iconst 1, 1) := by decide +kernel
theorem dX1_row_68 : decode cX1_row 68 = .ok (.iadd, 1) := by decide +kernel
theorem dX1_row_69 : decode cX1_row 69 = .ok (.putfield 192, 3) := by decide +kernel
theorem dX1_row_72 : decode cX1_row 72 = .ok (.aload_n 0, 1) := by decide +kernel
theorem dX1_row_73 : decode cX1_row 73 = .ok (.getfield 192, 3) := by decide +kernel
theorem dX1_row_76 : decode cX1_row 76 = .ok (.ireturn, 1) := by decide +kernel
set_option maxRecDepth 20000 in
theorem ggX1_judge_X1_toldAt : GoodIn wsX1_judge wsX1_toldAt := goodIn_r _ [7, 1, 8, 17, 18, 19, 20, 21, 22, 23, 24, 25, 26, 27, 28] (by decide +kernel) (by decide +kernel)
set_option maxRecDepth 20000 in
theorem gX1_judge_X1_toldAt : GoodIn wsX1_judge (wsV RX1 195 RX1 yX1_toldAt wsX1_toldAt) := goodIn_app (goodIn_of _ (by decide +kernel)) ggX1_judge_X1_toldAt
set_option maxRecDepth 20000 in
theorem ggX1_judge_X0_wetOf : GoodIn wsX1_judge wsX0_wetOf := goodIn_r _ [13, 14, 15, 6, 16, 29, 30, 31, 32, 33, 34, 35, 36] (by decide +kernel) (by decide +kernel)
set_option maxRecDepth 20000 in
theorem gX1_judge_X0_wetOf : GoodIn wsX1_judge (wsV RX1 63 RX0 yX0_wetOf wsX0_wetOf) := goodIn_app (goodIn_of _ (by decide +kernel)) ggX1_judge_X0_wetOf
theorem dX1_judge_0 : decode cX1_judge 0 = .ok (.bipush (-9), 2) := by decide +kernel
theorem dX1_judge_2 : decode cX1_judge 2 = .ok (.istore_n 1, 1) := by decide +kernel
theorem dX1_judge_3 : decode cX1_judge 3 = .ok (.iconst 0, 1) := by decide +kernel
theorem dX1_judge_4 : decode cX1_judge 4 = .ok (.istore_n 2, 1) := by decide +kernel
theorem dX1_judge_5 : decode cX1_judge 5 = .ok (.iload_n 2, 1) := by decide +kernel
theorem dX1_judge_6 : decode cX1_judge 6 = .ok (.aload_n 0, 1) := by decide +kernel
theorem dX1_judge_7 : decode cX1_judge 7 = .ok (.getfield 192, 3) := by decide +kernel
theorem dX1_judge_10 : decode cX1_judge 10 = .ok (.if_icmp .ge 33, 3) := by decide +kernel
theorem dX1_judge_13 : decode cX1_judge 13 = .ok (.iload_n 1, 1) := by decide +kernel
theorem dX1_judge_14 : decode cX1_judge 14 = .ok (.bipush (-9), 2) := by decide +kernel
theorem dX1_judge_16 : decode cX1_judge 16 = .ok (.if_icmp .ne 27, 3) := by decide +kernel
theorem dX1_judge_19 : decode cX1_judge 19 = .ok (.aload_n 0, 1) := by decide +kernel
theorem dX1_judge_20 : decode cX1_judge 20 = .ok (.iload_n 2, 1) := by decide +kernel
theorem dX1_judge_21 : decode cX1_judge 21 = .ok (.invokevirtual 195, 3) := by decide +kernel
theorem dX1_judge_24 : decode cX1_judge 24 = .ok (.aload_n 0, 1) := by decide +kernel
theorem dX1_judge_25 : decode cX1_judge 25 = .ok (.getfield 10, 3) := by decide +kernel
theorem dX1_judge_28 : decode cX1_judge 28 = .ok (.iload_n 2, 1) := by decide +kernel
theorem dX1_judge_29 : decode cX1_judge 29 = .ok (.invokevirtual 63, 3) := by decide +kernel
theorem dX1_judge_32 : decode cX1_judge 32 = .ok (.if_icmp .eq 5, 3) := by decide +kernel
theorem dX1_judge_35 : decode cX1_judge 35 = .ok (.iload_n 2, 1) := by decide +kernel
theorem dX1_judge_36 : decode cX1_judge 36 = .ok (.istore_n 1, 1) := by decide +kernel
theorem dX1_judge_37 : decode cX1_judge 37 = .ok (.iinc 2 1, 3) := by decide +kernel
theorem dX1_judge_40 : decode cX1_judge 40 = .ok (.goto (-35), 3) := by decide +kernel
theorem dX1_judge_43 : decode cX1_judge 43 = .ok (.aload_n 0, 1) := by decide +kernel
theorem dX1_judge_44 : decode cX1_judge 44 = .ok (.iconst 0, 1) := by decide +kernel
theorem dX1_judge_45 : decode cX1_judge 45 = .ok (.putfield 192, 3) := by decide +kernel
theorem dX1_judge_48 : decode cX1_judge 48 = .ok (.iload_n 1, 1) := by decide +kernel
theorem dX1_judge_49 : decode cX1_judge 49 = .ok (.ireturn, 1) := by decide +kernel
theorem dX1_clear_0 : decode cX1_clear 0 = .ok (.aload_n 0, 1) := by decide +kernel
theorem dX1_clear_1 : decode cX1_clear 1 = .ok (.getfield 192, 3) := by decide +kernel
theorem dX1_clear_4 : decode cX1_clear 4 = .ok (.istore_n 1, 1) := by decide +kernel
theorem dX1_clear_5 : decode cX1_clear 5 = .ok (.aload_n 0, 1) := by decide +kernel
theorem dX1_clear_6 : decode cX1_clear 6 = .ok (.iconst 0, 1) := by decide +kernel
theorem dX1_clear_7 : decode cX1_clear 7 = .ok (.putfield 192, 3) := by decide +kernel
theorem dX1_clear_10 : decode cX1_clear 10 = .ok (.iload_n 1, 1) := by decide +kernel
theorem dX1_clear_11 : decode cX1_clear 11 = .ok (.ireturn, 1) := by decide +kernel
set_option maxRecDepth 20000 in
theorem ggX1_lots_X1_outside : GoodIn wsX1_lots wsX1_outside := goodIn_r _ [7] (by decide +kernel) (by decide +kernel)
set_option maxRecDepth 20000 in
theorem gX1_lots_X1_outside : GoodIn wsX1_lots (va_wsS RX1 79 yX1_outside wsX1_outside) := goodIn_app (goodIn_of _ (by decide +kernel)) ggX1_lots_X1_outside
set_option maxRecDepth 20000 in
theorem ggX1_lots_X1_refuse : GoodIn wsX1_lots wsX1_refuse := goodIn_r _ [11, 12, 96, 97, 98, 99, 100, 101, 102, 103, 104, 105, 106, 107] (by decide +kernel) (by decide +kernel)
set_option maxRecDepth 20000 in
theorem gX1_lots_X1_refuse : GoodIn wsX1_lots (wsV RX1 38 RX1 yX1_refuse wsX1_refuse) := goodIn_app (goodIn_of _ (by decide +kernel)) ggX1_lots_X1_refuse
set_option maxRecDepth 20000 in
theorem ggX1_lots_X0_becomes : GoodIn wsX1_lots wsX0_becomes := goodIn_r _ [17, 18, 19, 20, 21, 22, 23, 24, 25, 26, 27, 28, 29, 108, 109, 110, 111, 112, 113, 114, 115] (by decide +kernel) (by decide +kernel)
set_option maxRecDepth 20000 in
theorem gX1_lots_X0_becomes : GoodIn wsX1_lots (wsV RX1 124 RX0 yX0_becomes wsX0_becomes) := goodIn_app (goodIn_of _ (by decide +kernel)) ggX1_lots_X0_becomes
set_option maxRecDepth 20000 in
theorem ggX1_lots_X1_drawPeople : GoodIn wsX1_lots wsX1_drawPeople := goodIn_r _ [33, 2, 34, 35, 36, 16, 37, 28, 38, 39, 40, 6, 41, 1, 42, 43, 44, 45, 46, 47, 48, 25, 49, 50, 51, 52, 53, 54, 55, 56, 26, 96, 97, 98, 99, 100, 101, 102, 103, 104, 105, 106, 107, 108, 109, 110, 111, 112, 113, 114, 115] (by decide +kernel) (by decide +kernel)
set_option maxRecDepth 20000 in
theorem gX1_lots_X1_drawPeople : GoodIn wsX1_lots (wsV RX1 201 RX1 yX1_drawPeople wsX1_drawPeople) := goodIn_app (goodIn_of _ (by decide +kernel)) ggX1_lots_X1_drawPeople
set_option maxRecDepth 20000 in
theorem ggX1_lots_X0_goOn : GoodIn wsX1_lots wsX0_goOn := goodIn_r _ [60, 29, 28, 61, 62, 63, 16, 64, 25, 24, 18, 23, 26, 27, 65, 66, 67, 68, 49, 50, 51, 52, 69, 6, 70, 71, 72, 73, 74, 75, 108, 109, 110, 111, 112, 113, 114, 115] (by decide +kernel) (by decide +kernel)
set_option maxRecDepth 20000 in
theorem gX1_lots_X0_goOn : GoodIn wsX1_lots (wsV RX1 118 RX0 yX0_goOn wsX0_goOn) := goodIn_app (goodIn_of _ (by decide +kernel)) ggX1_lots_X0_goOn
set_option maxRecDepth 20000 in
theorem ggX1_lots_X0_allHelped : GoodIn wsX1_lots wsX0_allHelped := goodIn_r _ [79, 28, 80, 81, 82, 16, 83, 27, 49, 50, 51, 52, 108, 109, 110, 111, 112, 113, 114, 115] (by decide +kernel) (by decide +kernel)
set_option maxRecDepth 20000 in
theorem gX1_lots_X0_allHelped : GoodIn wsX1_lots (wsV RX1 204 RX0 yX0_allHelped wsX0_allHelped) := goodIn_app (goodIn_of _ (by decide +kernel)) ggX1_lots_X0_allHelped
set_option maxRecDepth 20000 in
theorem ggX1_lots_X0_stuckPeople : GoodIn wsX1_lots wsX0_stuckPeople := goodIn_r _ [87, 28, 88, 89, 90, 16, 91, 25, 49, 50, 51, 52, 92, 93, 94, 95, 24, 69, 6, 70, 108, 109, 110, 111, 112, 113, 114, 115] (by decide +kernel) (by decide +kernel)
set_option maxRecDepth 20000 in
theorem gX1_lots_X0_stuckPeople : GoodIn wsX1_lots (wsV RX1 207 RX0 yX0_stuckPeople wsX0_stuckPeople) := goodIn_app (goodIn_of _ (by decide +kernel)) ggX1_lots_X0_stuckPeople
theorem dX1_lots_0 : decode cX1_lots 0 = .ok (.iload_n 1, 1) := by decide +kernel
theorem dX1_lots_1 : decode cX1_lots 1 = .ok (.iconst 1, 1) := by decide +kernel
theorem dX1_lots_2 : decode cX1_lots 2 = .ok (.bipush 20, 2) := by decide +kernel
theorem dX1_lots_4 : decode cX1_lots 4 = .ok (.invokestatic 79, 3) := by decide +kernel
theorem dX1_lots_7 : decode cX1_lots 7 = .ok (.istore 4, 2) := by decide +kernel
theorem dX1_lots_9 : decode cX1_lots 9 = .ok (.iload 4, 2) := by decide +kernel
theorem dX1_lots_11 : decode cX1_lots 11 = .ok (.ifCond .eq 10, 3) := by decide +kernel
theorem dX1_lots_14 : decode cX1_lots 14 = .ok (.aload_n 0, 1) := by decide +kernel
theorem dX1_lots_15 : decode cX1_lots 15 = .ok (.iload 4, 2) := by decide +kernel
theorem dX1_lots_17 : decode cX1_lots 17 = .ok (.invokevirtual 38, 3) := by decide +kernel
theorem dX1_lots_20 : decode cX1_lots 20 = .ok (.ireturn, 1) := by decide +kernel
theorem dX1_lots_21 : decode cX1_lots 21 = .ok (.iload_n 3, 1) := by decide +kernel
theorem dX1_lots_22 : decode cX1_lots 22 = .ok (.ifCond .lt 8, 3) := by decide +kernel
theorem dX1_lots_25 : decode cX1_lots 25 = .ok (.iload_n 3, 1) := by decide +kernel
theorem dX1_lots_26 : decode cX1_lots 26 = .ok (.iconst 1, 1) := by decide +kernel
theorem dX1_lots_27 : decode cX1_lots 27 = .ok (.if_icmp .le 10, 3) := by decide +kernel
theorem dX1_lots_30 : decode cX1_lots 30 = .ok (.aload_n 0, 1) := by decide +kernel
theorem dX1_lots_31 : decode cX1_lots 31 = .ok (.bipush (-2), 2) := by decide +kernel
theorem dX1_lots_33 : decode cX1_lots 33 = .ok (.invokevirtual 38, 3) := by decide +kernel
theorem dX1_lots_36 : decode cX1_lots 36 = .ok (.ireturn, 1) := by decide +kernel
theorem dX1_lots_37 : decode cX1_lots 37 = .ok (.aload_n 0, 1) := by decide +kernel
theorem dX1_lots_38 : decode cX1_lots 38 = .ok (.iload_n 2, 1) := by decide +kernel
theorem dX1_lots_39 : decode cX1_lots 39 = .ok (.putfield 198, 3) := by decide +kernel
theorem dX1_lots_42 : decode cX1_lots 42 = .ok (.iconst 0, 1) := by decide +kernel
theorem dX1_lots_43 : decode cX1_lots 43 = .ok (.istore 5, 2) := by decide +kernel
theorem dX1_lots_45 : decode cX1_lots 45 = .ok (.iconst 0, 1) := by decide +kernel
theorem dX1_lots_46 : decode cX1_lots 46 = .ok (.istore 6, 2) := by decide +kernel
theorem dX1_lots_48 : decode cX1_lots 48 = .ok (.iload 6, 2) := by decide +kernel
theorem dX1_lots_50 : decode cX1_lots 50 = .ok (.iload_n 1, 1) := by decide +kernel
theorem dX1_lots_51 : decode cX1_lots 51 = .ok (.if_icmp .ge 68, 3) := by decide +kernel
theorem dX1_lots_54 : decode cX1_lots 54 = .ok (.aload_n 0, 1) := by decide +kernel
theorem dX1_lots_55 : decode cX1_lots 55 = .ok (.getfield 16, 3) := by decide +kernel
theorem dX1_lots_58 : decode cX1_lots 58 = .ok (.aload_n 0, 1) := by decide +kernel
theorem dX1_lots_59 : decode cX1_lots 59 = .ok (.getfield 10, 3) := by decide +kernel
theorem dX1_lots_62 : decode cX1_lots 62 = .ok (.invokevirtual 124, 3) := by decide +kernel
theorem dX1_lots_65 : decode cX1_lots 65 = .ok (.aload_n 0, 1) := by decide +kernel
theorem dX1_lots_66 : decode cX1_lots 66 = .ok (.invokevirtual 201, 3) := by decide +kernel
theorem dX1_lots_69 : decode cX1_lots 69 = .ok (.aload_n 0, 1) := by decide +kernel
theorem dX1_lots_70 : decode cX1_lots 70 = .ok (.getfield 16, 3) := by decide +kernel
theorem dX1_lots_73 : decode cX1_lots 73 = .ok (.bipush 12, 2) := by decide +kernel
theorem dX1_lots_75 : decode cX1_lots 75 = .ok (.iconst 0, 1) := by decide +kernel
theorem dX1_lots_76 : decode cX1_lots 76 = .ok (.invokevirtual 118, 3) := by decide +kernel
theorem dX1_lots_79 : decode cX1_lots 79 = .ok (.iload 5, 2) := by decide +kernel
theorem dX1_lots_81 : decode cX1_lots 81 = .ok (.iload_n 3, 1) := by decide +kernel
theorem dX1_lots_82 : decode cX1_lots 82 = .ok (.ifCond .ne 21, 3) := by decide +kernel
theorem dX1_lots_85 : decode cX1_lots 85 = .ok (.aload_n 0, 1) := by decide +kernel
theorem dX1_lots_86 : decode cX1_lots 86 = .ok (.getfield 16, 3) := by decide +kernel
theorem dX1_lots_89 : decode cX1_lots 89 = .ok (.invokevirtual 204, 3) := by decide +kernel
theorem dX1_lots_92 : decode cX1_lots 92 = .ok (.aload_n 0, 1) := by decide +kernel
theorem dX1_lots_93 : decode cX1_lots 93 = .ok (.getfield 10, 3) := by decide +kernel
theorem dX1_lots_96 : decode cX1_lots 96 = .ok (.invokevirtual 204, 3) := by decide +kernel
theorem dX1_lots_99 : decode cX1_lots 99 = .ok (.isub, 1) := by decide +kernel
theorem dX1_lots_100 : decode cX1_lots 100 = .ok (.goto 10, 3) := by decide +kernel
theorem dX1_lots_103 : decode cX1_lots 103 = .ok (.aload_n 0, 1) := by decide +kernel
theorem dX1_lots_104 : decode cX1_lots 104 = .ok (.getfield 16, 3) := by decide +kernel
theorem dX1_lots_107 : decode cX1_lots 107 = .ok (.invokevirtual 207, 3) := by decide +kernel
theorem dX1_lots_110 : decode cX1_lots 110 = .ok (.iadd, 1) := by decide +kernel
theorem dX1_lots_111 : decode cX1_lots 111 = .ok (.istore 5, 2) := by decide +kernel
theorem dX1_lots_113 : decode cX1_lots 113 = .ok (.iinc 6 1, 3) := by decide +kernel
theorem dX1_lots_116 : decode cX1_lots 116 = .ok (.goto (-68), 3) := by decide +kernel
theorem dX1_lots_119 : decode cX1_lots 119 = .ok (.iload 5, 2) := by decide +kernel
theorem dX1_lots_121 : decode cX1_lots 121 = .ok (.ireturn, 1) := by decide +kernel
set_option maxRecDepth 20000 in
theorem ggX1_image_X0_becomes : GoodIn wsX1_image wsX0_becomes := goodIn_r _ [8, 9, 10, 11, 12, 13, 14, 15, 16, 17, 18, 19, 20, 37, 38, 39, 40, 41, 42, 43, 44] (by decide +kernel) (by decide +kernel)
set_option maxRecDepth 20000 in
theorem gX1_image_X0_becomes : GoodIn wsX1_image (wsV RX1 124 RX0 yX0_becomes wsX0_becomes) := goodIn_app (goodIn_of _ (by decide +kernel)) ggX1_image_X0_becomes
set_option maxRecDepth 20000 in
theorem ggX1_image_X0_stepCount : GoodIn wsX1_image wsX0_stepCount := goodIn_r _ [24, 20, 37, 38, 39, 40, 41, 42, 43, 44] (by decide +kernel) (by decide +kernel)
set_option maxRecDepth 20000 in
theorem gX1_image_X0_stepCount : GoodIn wsX1_image (wsV RX1 115 RX0 yX0_stepCount wsX0_stepCount) := goodIn_app (goodIn_of _ (by decide +kernel)) ggX1_image_X0_stepCount
theorem dX1_image_0 : decode cX1_image 0 = .ok (.aload_n 0, 1) := by decide +kernel
theorem dX1_image_1 : decode cX1_image 1 = .ok (.getfield 19, 3) := by decide +kernel
theorem dX1_image_4 : decode cX1_image 4 = .ok (.aload_n 0, 1) := by decide +kernel
theorem dX1_image_5 : decode cX1_image 5 = .ok (.getfield 10, 3) := by decide +kernel
theorem dX1_image_8 : decode cX1_image 8 = .ok (.invokevirtual 124, 3) := by decide +kernel
theorem dX1_image_11 : decode cX1_image 11 = .ok (.aload_n 0, 1) := by decide +kernel
theorem dX1_image_12 : decode cX1_image 12 = .ok (.iconst 1, 1) := by decide +kernel
theorem dX1_image_13 : decode cX1_image 13 = .ok (.putfield 210, 3) := by decide +kernel
theorem dX1_image_16 : decode cX1_image 16 = .ok (.aload_n 0, 1) := by decide +kernel
theorem dX1_image_17 : decode cX1_image 17 = .ok (.getfield 10, 3) := by decide +kernel
theorem dX1_image_20 : decode cX1_image 20 = .ok (.invokevirtual 115, 3) := by decide +kernel
theorem dX1_image_23 : decode cX1_image 23 = .ok (.ireturn, 1) := by decide +kernel
set_option maxRecDepth 20000 in
theorem ggX1_on_X1_refuse : GoodIn wsX1_on wsX1_refuse := goodIn_r _ [8, 9, 31, 32, 33, 34, 35, 36, 37, 38, 39, 40, 41, 42] (by decide +kernel) (by decide +kernel)
set_option maxRecDepth 20000 in
theorem gX1_on_X1_refuse : GoodIn wsX1_on (wsV RX1 38 RX1 yX1_refuse wsX1_refuse) := goodIn_app (goodIn_of _ (by decide +kernel)) ggX1_on_X1_refuse
set_option maxRecDepth 20000 in
theorem ggX1_on_X0_becomes : GoodIn wsX1_on wsX0_becomes := goodIn_r _ [14, 15, 16, 17, 18, 19, 20, 21, 22, 23, 24, 25, 26, 43, 44, 45, 46, 47, 48, 49, 50] (by decide +kernel) (by decide +kernel)
set_option maxRecDepth 20000 in
theorem gX1_on_X0_becomes : GoodIn wsX1_on (wsV RX1 124 RX0 yX0_becomes wsX0_becomes) := goodIn_app (goodIn_of _ (by decide +kernel)) ggX1_on_X0_becomes
set_option maxRecDepth 20000 in
theorem ggX1_on_X0_stepCount : GoodIn wsX1_on wsX0_stepCount := goodIn_r _ [30, 26, 43, 44, 45, 46, 47, 48, 49, 50] (by decide +kernel) (by decide +kernel)
set_option maxRecDepth 20000 in
theorem gX1_on_X0_stepCount : GoodIn wsX1_on (wsV RX1 115 RX0 yX0_stepCount wsX0_stepCount) := goodIn_app (goodIn_of _ (by decide +kernel)) ggX1_on_X0_stepCount
theorem dX1_on_0 : decode cX1_on 0 = .ok (.aload_n 0, 1) := by decide +kernel
theorem dX1_on_1 : decode cX1_on 1 = .ok (.getfield 210, 3) := by decide +kernel
theorem dX1_on_4 : decode cX1_on 4 = .ok (.ifCond .ne 10, 3) := by decide +kernel
theorem dX1_on_7 : decode cX1_on 7 = .ok (.aload_n 0, 1) := by decide +kernel
theorem dX1_on_8 : decode cX1_on 8 = .ok (.bipush (-3), 2) := by decide +kernel
theorem dX1_on_10 : decode cX1_on 10 = .ok (.invokevirtual 38, 3) := by decide +kernel
theorem dX1_on_13 : decode cX1_on 13 = .ok (.ireturn, 1) := by decide +kernel
theorem dX1_on_14 : decode cX1_on 14 = .ok (.aload_n 0, 1) := by decide +kernel
theorem dX1_on_15 : decode cX1_on 15 = .ok (.getfield 10, 3) := by decide +kernel
theorem dX1_on_18 : decode cX1_on 18 = .ok (.aload_n 0, 1) := by decide +kernel
theorem dX1_on_19 : decode cX1_on 19 = .ok (.getfield 19, 3) := by decide +kernel
theorem dX1_on_22 : decode cX1_on 22 = .ok (.invokevirtual 124, 3) := by decide +kernel
theorem dX1_on_25 : decode cX1_on 25 = .ok (.aload_n 0, 1) := by decide +kernel
theorem dX1_on_26 : decode cX1_on 26 = .ok (.getfield 10, 3) := by decide +kernel
theorem dX1_on_29 : decode cX1_on 29 = .ok (.invokevirtual 115, 3) := by decide +kernel
theorem dX1_on_32 : decode cX1_on 32 = .ok (.ireturn, 1) := by decide +kernel
set_option maxRecDepth 20000 in
theorem ggX1_count_X0_peopleCount : GoodIn wsX1_count wsX0_peopleCount := goodIn_r _ [8, 9, 74, 75, 76, 77, 78, 79, 80, 81] (by decide +kernel) (by decide +kernel)
set_option maxRecDepth 20000 in
theorem gX1_count_X0_peopleCount : GoodIn wsX1_count (wsV RX1 214 RX0 yX0_peopleCount wsX0_peopleCount) := goodIn_app (goodIn_of _ (by decide +kernel)) ggX1_count_X0_peopleCount
set_option maxRecDepth 20000 in
theorem ggX1_count_X0_stepCount : GoodIn wsX1_count wsX0_stepCount := goodIn_r _ [13, 14, 74, 75, 76, 77, 78, 79, 80, 81] (by decide +kernel) (by decide +kernel)
set_option maxRecDepth 20000 in
theorem gX1_count_X0_stepCount : GoodIn wsX1_count (wsV RX1 115 RX0 yX0_stepCount wsX0_stepCount) := goodIn_app (goodIn_of _ (by decide +kernel)) ggX1_count_X0_stepCount
set_option maxRecDepth 20000 in
theorem ggX1_count_X0_allWet : GoodIn wsX1_count wsX0_allWet := goodIn_r _ [18, 19, 20, 21, 7, 22, 23, 24, 25, 26, 27, 28, 29, 30, 74, 75, 76, 77, 78, 79, 80, 81] (by decide +kernel) (by decide +kernel)
set_option maxRecDepth 20000 in
theorem gX1_count_X0_allWet : GoodIn wsX1_count (wsV RX1 121 RX0 yX0_allWet wsX0_allWet) := goodIn_app (goodIn_of _ (by decide +kernel)) ggX1_count_X0_allWet
set_option maxRecDepth 20000 in
theorem ggX1_count_X0_allHelped : GoodIn wsX1_count wsX0_allHelped := goodIn_r _ [34, 9, 35, 36, 37, 7, 38, 39, 40, 41, 42, 43, 74, 75, 76, 77, 78, 79, 80, 81] (by decide +kernel) (by decide +kernel)
set_option maxRecDepth 20000 in
theorem gX1_count_X0_allHelped : GoodIn wsX1_count (wsV RX1 204 RX0 yX0_allHelped wsX0_allHelped) := goodIn_app (goodIn_of _ (by decide +kernel)) ggX1_count_X0_allHelped
set_option maxRecDepth 20000 in
theorem ggX1_count_X0_dryNodes : GoodIn wsX1_count wsX0_dryNodes := goodIn_r _ [47, 23, 24, 25, 7, 26, 27, 28, 29, 30, 74, 75, 76, 77, 78, 79, 80, 81] (by decide +kernel) (by decide +kernel)
set_option maxRecDepth 20000 in
theorem gX1_count_X0_dryNodes : GoodIn wsX1_count (wsV RX1 142 RX0 yX0_dryNodes wsX0_dryNodes) := goodIn_app (goodIn_of _ (by decide +kernel)) ggX1_count_X0_dryNodes
set_option maxRecDepth 20000 in
theorem ggX1_count_X0_allFigures : GoodIn wsX1_count wsX0_allFigures := goodIn_r _ [51, 52, 53, 54, 7, 55, 56, 28, 29, 30, 74, 75, 76, 77, 78, 79, 80, 81] (by decide +kernel) (by decide +kernel)
set_option maxRecDepth 20000 in
theorem gX1_count_X0_allFigures : GoodIn wsX1_count (wsV RX1 217 RX0 yX0_allFigures wsX0_allFigures) := goodIn_app (goodIn_of _ (by decide +kernel)) ggX1_count_X0_allFigures
set_option maxRecDepth 20000 in
theorem ggX1_count_X1_refusalsOf : GoodIn wsX1_count wsX1_refusalsOf := goodIn_r _ [60, 61, 62, 63, 64, 65, 66, 67, 68, 69, 70, 71, 72, 73] (by decide +kernel) (by decide +kernel)
set_option maxRecDepth 20000 in
theorem gX1_count_X1_refusalsOf : GoodIn wsX1_count (wsV RX1 220 RX1 yX1_refusalsOf wsX1_refusalsOf) := goodIn_app (goodIn_of _ (by decide +kernel)) ggX1_count_X1_refusalsOf
theorem dX1_count_0 : decode cX1_count 0 = .ok (.iload_n 1, 1) := by decide +kernel
theorem dX1_count_1 : decode cX1_count 1 = .ok (.tableswitch 105 0 7 #[47, 55, 63, 71, 79, 87, 95, 100], 47) := by decide +kernel
theorem dX1_count_48 : decode cX1_count 48 = .ok (.aload_n 0, 1) := by decide +kernel
theorem dX1_count_49 : decode cX1_count 49 = .ok (.getfield 10, 3) := by decide +kernel
theorem dX1_count_52 : decode cX1_count 52 = .ok (.invokevirtual 214, 3) := by decide +kernel
theorem dX1_count_55 : decode cX1_count 55 = .ok (.ireturn, 1) := by decide +kernel
theorem dX1_count_56 : decode cX1_count 56 = .ok (.aload_n 0, 1) := by decide +kernel
theorem dX1_count_57 : decode cX1_count 57 = .ok (.getfield 10, 3) := by decide +kernel
theorem dX1_count_60 : decode cX1_count 60 = .ok (.invokevirtual 115, 3) := by decide +kernel
theorem dX1_count_63 : decode cX1_count 63 = .ok (.ireturn, 1) := by decide +kernel
theorem dX1_count_64 : decode cX1_count 64 = .ok (.aload_n 0, 1) := by decide +kernel
theorem dX1_count_65 : decode cX1_count 65 = .ok (.getfield 10, 3) := by decide +kernel
theorem dX1_count_68 : decode cX1_count 68 = .ok (.invokevirtual 121, 3) := by decide +kernel
theorem dX1_count_71 : decode cX1_count 71 = .ok (.ireturn, 1) := by decide +kernel
theorem dX1_count_72 : decode cX1_count 72 = .ok (.aload_n 0, 1) := by decide +kernel
theorem dX1_count_73 : decode cX1_count 73 = .ok (.getfield 10, 3) := by decide +kernel
theorem dX1_count_76 : decode cX1_count 76 = .ok (.invokevirtual 204, 3) := by decide +kernel
theorem dX1_count_79 : decode cX1_count 79 = .ok (.ireturn, 1) := by decide +kernel
theorem dX1_count_80 : decode cX1_count 80 = .ok (.aload_n 0, 1) := by decide +kernel
theorem dX1_count_81 : decode cX1_count 81 = .ok (.getfield 10, 3) := by decide +kernel
theorem dX1_count_84 : decode cX1_count 84 = .ok (.invokevirtual 142, 3) := by decide +kernel
theorem dX1_count_87 : decode cX1_count 87 = .ok (.ireturn, 1) := by decide +kernel
theorem dX1_count_88 : decode cX1_count 88 = .ok (.aload_n 0, 1) := by decide +kernel
theorem dX1_count_89 : decode cX1_count 89 = .ok (.getfield 10, 3) := by decide +kernel
theorem dX1_count_92 : decode cX1_count 92 = .ok (.invokevirtual 217, 3) := by decide +kernel
theorem dX1_count_95 : decode cX1_count 95 = .ok (.ireturn, 1) := by decide +kernel
theorem dX1_count_96 : decode cX1_count 96 = .ok (.aload_n 0, 1) := by decide +kernel
theorem dX1_count_97 : decode cX1_count 97 = .ok (.getfield 192, 3) := by decide +kernel
theorem dX1_count_100 : decode cX1_count 100 = .ok (.ireturn, 1) := by decide +kernel
theorem dX1_count_101 : decode cX1_count 101 = .ok (.aload_n 0, 1) := by decide +kernel
theorem dX1_count_102 : decode cX1_count 102 = .ok (.getfield 42, 3) := by decide +kernel
theorem dX1_count_105 : decode cX1_count 105 = .ok (.ireturn, 1) := by decide +kernel
theorem dX1_count_106 : decode cX1_count 106 = .ok (.aload_n 0, 1) := by decide +kernel
theorem dX1_count_107 : decode cX1_count 107 = .ok (.iload_n 1, 1) := by decide +kernel
theorem dX1_count_108 : decode cX1_count 108 = .ok (.bipush 11, 2) := by decide +kernel
theorem dX1_count_110 : decode cX1_count 110 = .ok (.isub, 1) := by decide +kernel
theorem dX1_count_111 : decode cX1_count 111 = .ok (.invokevirtual 220, 3) := by decide +kernel
theorem dX1_count_114 : decode cX1_count 114 = .ok (.ireturn, 1) := by decide +kernel
theorem dX1_refuse_0 : decode cX1_refuse 0 = .ok (.iload_n 1, 1) := by decide +kernel
theorem dX1_refuse_1 : decode cX1_refuse 1 = .ok (.ineg, 1) := by decide +kernel
theorem dX1_refuse_2 : decode cX1_refuse 2 = .ok (.iconst 1, 1) := by decide +kernel
theorem dX1_refuse_3 : decode cX1_refuse 3 = .ok (.isub, 1) := by decide +kernel
theorem dX1_refuse_4 : decode cX1_refuse 4 = .ok (.istore_n 2, 1) := by decide +kernel
theorem dX1_refuse_5 : decode cX1_refuse 5 = .ok (.iload_n 2, 1) := by decide +kernel
theorem dX1_refuse_6 : decode cX1_refuse 6 = .ok (.ifCond .lt 22, 3) := by decide +kernel
theorem dX1_refuse_9 : decode cX1_refuse 9 = .ok (.iload_n 2, 1) := by decide +kernel
theorem dX1_refuse_10 : decode cX1_refuse 10 = .ok (.aload_n 0, 1) := by decide +kernel
theorem dX1_refuse_11 : decode cX1_refuse 11 = .ok (.getfield 29, 3) := by decide +kernel
theorem dX1_refuse_14 : decode cX1_refuse 14 = .ok (.arraylength, 1) := by decide +kernel
theorem dX1_refuse_15 : decode cX1_refuse 15 = .ok (.if_icmp .ge 13, 3) := by decide +kernel
theorem dX1_refuse_18 : decode cX1_refuse 18 = .ok (.aload_n 0, 1) := by decide +kernel
theorem dX1_refuse_19 : decode cX1_refuse 19 = .ok (.getfield 29, 3) := by decide +kernel
theorem dX1_refuse_22 : decode cX1_refuse 22 = .ok (.iload_n 2, 1) := by decide +kernel
theorem dX1_refuse_23 : decode cX1_refuse 23 = .ok (.dup2, 1) := by decide +kernel
theorem dX1_refuse_24 : decode cX1_refuse 24 = .ok (.iaload, 1) := by decide +kernel
theorem dX1_refuse_25 : decode cX1_refuse 25 = .ok (.iconst 1, 1) := by decide +kernel
theorem dX1_refuse_26 : decode cX1_refuse 26 = .ok (.iadd, 1) := by decide +kernel
theorem dX1_refuse_27 : decode cX1_refuse 27 = .ok (.iastore, 1) := by decide +kernel
theorem dX1_refuse_28 : decode cX1_refuse 28 = .ok (.iload_n 1, 1) := by decide +kernel
theorem dX1_refuse_29 : decode cX1_refuse 29 = .ok (.ireturn, 1) := by decide +kernel
set_option maxRecDepth 20000 in
theorem ggX1_refuseLong_X1_refuse : GoodIn wsX1_refuseLong wsX1_refuse := goodIn_r _ [6, 7, 8, 9, 10, 11, 12, 13, 14, 15, 16, 17, 18, 19] (by decide +kernel) (by decide +kernel)
set_option maxRecDepth 20000 in
theorem gX1_refuseLong_X1_refuse : GoodIn wsX1_refuseLong (wsV RX1 38 RX1 yX1_refuse wsX1_refuse) := goodIn_app (goodIn_of _ (by decide +kernel)) ggX1_refuseLong_X1_refuse
theorem dX1_refuseLong_0 : decode cX1_refuseLong 0 = .ok (.ldc2_w 223, 3) := by decide +kernel
theorem dX1_refuseLong_3 : decode cX1_refuseLong 3 = .ok (.aload_n 0, 1) := by decide +kernel
theorem dX1_refuseLong_4 : decode cX1_refuseLong 4 = .ok (.iload_n 1, 1) := by decide +kernel
theorem dX1_refuseLong_5 : decode cX1_refuseLong 5 = .ok (.invokevirtual 38, 3) := by decide +kernel
theorem dX1_refuseLong_8 : decode cX1_refuseLong 8 = .ok (.i2l, 1) := by decide +kernel
theorem dX1_refuseLong_9 : decode cX1_refuseLong 9 = .ok (.lsub, 1) := by decide +kernel
theorem dX1_refuseLong_10 : decode cX1_refuseLong 10 = .ok (.lreturn, 1) := by decide +kernel
theorem dX1_refusalsOf_0 : decode cX1_refusalsOf 0 = .ok (.iload_n 1, 1) := by decide +kernel
theorem dX1_refusalsOf_1 : decode cX1_refusalsOf 1 = .ok (.ifCond .lt 21, 3) := by decide +kernel
theorem dX1_refusalsOf_4 : decode cX1_refusalsOf 4 = .ok (.iload_n 1, 1) := by decide +kernel
theorem dX1_refusalsOf_5 : decode cX1_refusalsOf 5 = .ok (.aload_n 0, 1) := by decide +kernel
theorem dX1_refusalsOf_6 : decode cX1_refusalsOf 6 = .ok (.getfield 29, 3) := by decide +kernel
theorem dX1_refusalsOf_9 : decode cX1_refusalsOf 9 = .ok (.arraylength, 1) := by decide +kernel
theorem dX1_refusalsOf_10 : decode cX1_refusalsOf 10 = .ok (.if_icmp .ge 12, 3) := by decide +kernel
theorem dX1_refusalsOf_13 : decode cX1_refusalsOf 13 = .ok (.aload_n 0, 1) := by decide +kernel
theorem dX1_refusalsOf_14 : decode cX1_refusalsOf 14 = .ok (.getfield 29, 3) := by decide +kernel
theorem dX1_refusalsOf_17 : decode cX1_refusalsOf 17 = .ok (.iload_n 1, 1) := by decide +kernel
theorem dX1_refusalsOf_18 : decode cX1_refusalsOf 18 = .ok (.iaload, 1) := by decide +kernel
theorem dX1_refusalsOf_19 : decode cX1_refusalsOf 19 = .ok (.goto 5, 3) := by decide +kernel
theorem dX1_refusalsOf_22 : decode cX1_refusalsOf 22 = .ok (.bipush (-9), 2) := by decide +kernel
theorem dX1_refusalsOf_24 : decode cX1_refusalsOf 24 = .ok (.ireturn, 1) := by decide +kernel
theorem dX1_outside_0 : decode cX1_outside 0 = .ok (.iload_n 0, 1) := by decide +kernel
theorem dX1_outside_1 : decode cX1_outside 1 = .ok (.iload_n 1, 1) := by decide +kernel
theorem dX1_outside_2 : decode cX1_outside 2 = .ok (.if_icmp .ge 6, 3) := by decide +kernel
theorem dX1_outside_5 : decode cX1_outside 5 = .ok (.bipush (-4), 2) := by decide +kernel
theorem dX1_outside_7 : decode cX1_outside 7 = .ok (.ireturn, 1) := by decide +kernel
theorem dX1_outside_8 : decode cX1_outside 8 = .ok (.iload_n 0, 1) := by decide +kernel
theorem dX1_outside_9 : decode cX1_outside 9 = .ok (.iload_n 2, 1) := by decide +kernel
theorem dX1_outside_10 : decode cX1_outside 10 = .ok (.if_icmp .le 8, 3) := by decide +kernel
theorem dX1_outside_13 : decode cX1_outside 13 = .ok (.bipush (-6), 2) := by decide +kernel
theorem dX1_outside_15 : decode cX1_outside 15 = .ok (.goto 4, 3) := by decide +kernel
theorem dX1_outside_18 : decode cX1_outside 18 = .ok (.iconst 0, 1) := by decide +kernel
theorem dX1_outside_19 : decode cX1_outside 19 = .ok (.ireturn, 1) := by decide +kernel
set_option maxRecDepth 20000 in
theorem ggX1_areTwo_X0_has : GoodIn wsX1_areTwo wsX0_has := goodIn_r _ [6, 7, 20, 21, 22, 23, 24, 25, 26, 27] (by decide +kernel) (by decide +kernel)
set_option maxRecDepth 20000 in
theorem gX1_areTwo_X0_has : GoodIn wsX1_areTwo (wsV RX1 66 RX0 yX0_has wsX0_has) := goodIn_app (goodIn_of _ (by decide +kernel)) ggX1_areTwo_X0_has
theorem dX1_areTwo_0 : decode cX1_areTwo 0 = .ok (.aload_n 0, 1) := by decide +kernel
theorem dX1_areTwo_1 : decode cX1_areTwo 1 = .ok (.getfield 10, 3) := by decide +kernel
theorem dX1_areTwo_4 : decode cX1_areTwo 4 = .ok (.iload_n 1, 1) := by decide +kernel
theorem dX1_areTwo_5 : decode cX1_areTwo 5 = .ok (.invokevirtual 66, 3) := by decide +kernel
theorem dX1_areTwo_8 : decode cX1_areTwo 8 = .ok (.ifCond .eq 23, 3) := by decide +kernel
theorem dX1_areTwo_11 : decode cX1_areTwo 11 = .ok (.aload_n 0, 1) := by decide +kernel
theorem dX1_areTwo_12 : decode cX1_areTwo 12 = .ok (.getfield 10, 3) := by decide +kernel
theorem dX1_areTwo_15 : decode cX1_areTwo 15 = .ok (.iload_n 2, 1) := by decide +kernel
theorem dX1_areTwo_16 : decode cX1_areTwo 16 = .ok (.invokevirtual 66, 3) := by decide +kernel
theorem dX1_areTwo_19 : decode cX1_areTwo 19 = .ok (.ifCond .eq 12, 3) := by decide +kernel
theorem dX1_areTwo_22 : decode cX1_areTwo 22 = .ok (.iload_n 1, 1) := by decide +kernel
theorem dX1_areTwo_23 : decode cX1_areTwo 23 = .ok (.iload_n 2, 1) := by decide +kernel
theorem dX1_areTwo_24 : decode cX1_areTwo 24 = .ok (.if_icmp .eq 7, 3) := by decide +kernel
theorem dX1_areTwo_27 : decode cX1_areTwo 27 = .ok (.iconst 1, 1) := by decide +kernel
theorem dX1_areTwo_28 : decode cX1_areTwo 28 = .ok (.goto 4, 3) := by decide +kernel
theorem dX1_areTwo_31 : decode cX1_areTwo 31 = .ok (.iconst 0, 1) := by decide +kernel
theorem dX1_areTwo_32 : decode cX1_areTwo 32 = .ok (.ireturn, 1) := by decide +kernel
theorem dX1_isNode_0 : decode cX1_isNode 0 = .ok (.iload_n 0, 1) := by decide +kernel
theorem dX1_isNode_1 : decode cX1_isNode 1 = .ok (.ifCond .lt 13, 3) := by decide +kernel
theorem dX1_isNode_4 : decode cX1_isNode 4 = .ok (.iload_n 0, 1) := by decide +kernel
theorem dX1_isNode_5 : decode cX1_isNode 5 = .ok (.bipush 30, 2) := by decide +kernel
theorem dX1_isNode_7 : decode cX1_isNode 7 = .ok (.if_icmp .ge 7, 3) := by decide +kernel
theorem dX1_isNode_10 : decode cX1_isNode 10 = .ok (.iconst 1, 1) := by decide +kernel
theorem dX1_isNode_11 : decode cX1_isNode 11 = .ok (.goto 4, 3) := by decide +kernel
theorem dX1_isNode_14 : decode cX1_isNode 14 = .ok (.iconst 0, 1) := by decide +kernel
theorem dX1_isNode_15 : decode cX1_isNode 15 = .ok (.ireturn, 1) := by decide +kernel
theorem dX1_isWay_0 : decode cX1_isWay 0 = .ok (.iload_n 0, 1) := by decide +kernel
theorem dX1_isWay_1 : decode cX1_isWay 1 = .ok (.ifCond .lt 12, 3) := by decide +kernel
theorem dX1_isWay_4 : decode cX1_isWay 4 = .ok (.iload_n 0, 1) := by decide +kernel
theorem dX1_isWay_5 : decode cX1_isWay 5 = .ok (.iconst 4, 1) := by decide +kernel
theorem dX1_isWay_6 : decode cX1_isWay 6 = .ok (.if_icmp .ge 7, 3) := by decide +kernel
theorem dX1_isWay_9 : decode cX1_isWay 9 = .ok (.iconst 1, 1) := by decide +kernel
theorem dX1_isWay_10 : decode cX1_isWay 10 = .ok (.goto 4, 3) := by decide +kernel
theorem dX1_isWay_13 : decode cX1_isWay 13 = .ok (.iconst 0, 1) := by decide +kernel
theorem dX1_isWay_14 : decode cX1_isWay 14 = .ok (.ireturn, 1) := by decide +kernel
theorem dX1_isKind_0 : decode cX1_isKind 0 = .ok (.iload_n 0, 1) := by decide +kernel
theorem dX1_isKind_1 : decode cX1_isKind 1 = .ok (.ifCond .lt 13, 3) := by decide +kernel
theorem dX1_isKind_4 : decode cX1_isKind 4 = .ok (.iload_n 0, 1) := by decide +kernel
theorem dX1_isKind_5 : decode cX1_isKind 5 = .ok (.bipush 6, 2) := by decide +kernel
theorem dX1_isKind_7 : decode cX1_isKind 7 = .ok (.if_icmp .ge 7, 3) := by decide +kernel
theorem dX1_isKind_10 : decode cX1_isKind 10 = .ok (.iconst 1, 1) := by decide +kernel
theorem dX1_isKind_11 : decode cX1_isKind 11 = .ok (.goto 4, 3) := by decide +kernel
theorem dX1_isKind_14 : decode cX1_isKind 14 = .ok (.iconst 0, 1) := by decide +kernel
theorem dX1_isKind_15 : decode cX1_isKind 15 = .ok (.ireturn, 1) := by decide +kernel
theorem dX1_letterAt_0 : decode cX1_letterAt 0 = .ok (.iload_n 1, 1) := by decide +kernel
theorem dX1_letterAt_1 : decode cX1_letterAt 1 = .ok (.ifCond .lt 29, 3) := by decide +kernel
theorem dX1_letterAt_4 : decode cX1_letterAt 4 = .ok (.iload_n 1, 1) := by decide +kernel
theorem dX1_letterAt_5 : decode cX1_letterAt 5 = .ok (.aload_n 0, 1) := by decide +kernel
theorem dX1_letterAt_6 : decode cX1_letterAt 6 = .ok (.getfield 42, 3) := by decide +kernel
theorem dX1_letterAt_9 : decode cX1_letterAt 9 = .ok (.if_icmp .ge 21, 3) := by decide +kernel
theorem dX1_letterAt_12 : decode cX1_letterAt 12 = .ok (.iload_n 1, 1) := by decide +kernel
theorem dX1_letterAt_13 : decode cX1_letterAt 13 = .ok (.aload_n 0, 1) := by decide +kernel
theorem dX1_letterAt_14 : decode cX1_letterAt 14 = .ok (.getfield 22, 3) := by decide +kernel
theorem dX1_letterAt_17 : decode cX1_letterAt 17 = .ok (.arraylength, 1) := by decide +kernel
theorem dX1_letterAt_18 : decode cX1_letterAt 18 = .ok (.if_icmp .ge 12, 3) := by decide +kernel
theorem dX1_letterAt_21 : decode cX1_letterAt 21 = .ok (.aload_n 0, 1) := by decide +kernel
theorem dX1_letterAt_22 : decode cX1_letterAt 22 = .ok (.getfield 22, 3) := by decide +kernel
theorem dX1_letterAt_25 : decode cX1_letterAt 25 = .ok (.iload_n 1, 1) := by decide +kernel
theorem dX1_letterAt_26 : decode cX1_letterAt 26 = .ok (.iaload, 1) := by decide +kernel
theorem dX1_letterAt_27 : decode cX1_letterAt 27 = .ok (.goto 4, 3) := by decide +kernel
theorem dX1_letterAt_30 : decode cX1_letterAt 30 = .ok (.iconst (-1), 1) := by decide +kernel
theorem dX1_letterAt_31 : decode cX1_letterAt 31 = .ok (.ireturn, 1) := by decide +kernel
theorem dX1_formBehind_0 : decode cX1_formBehind 0 = .ok (.iload_n 0, 1) := by decide +kernel
theorem dX1_formBehind_1 : decode cX1_formBehind 1 = .ok (.lookupswitch 68 #[(97, 62), (104, 65), (110, 59), (112, 62), (115, 65), (119, 62)], 59) := by decide +kernel
theorem dX1_formBehind_60 : decode cX1_formBehind 60 = .ok (.ldc 225, 2) := by decide +kernel
theorem dX1_formBehind_62 : decode cX1_formBehind 62 = .ok (.areturn, 1) := by decide +kernel
theorem dX1_formBehind_63 : decode cX1_formBehind 63 = .ok (.ldc 227, 2) := by decide +kernel
theorem dX1_formBehind_65 : decode cX1_formBehind 65 = .ok (.areturn, 1) := by decide +kernel
theorem dX1_formBehind_66 : decode cX1_formBehind 66 = .ok (.ldc 229, 2) := by decide +kernel
theorem dX1_formBehind_68 : decode cX1_formBehind 68 = .ok (.areturn, 1) := by decide +kernel
theorem dX1_formBehind_69 : decode cX1_formBehind 69 = .ok (.ldc 231, 2) := by decide +kernel
theorem dX1_formBehind_71 : decode cX1_formBehind 71 = .ok (.areturn, 1) := by decide +kernel
set_option maxRecDepth 20000 in
theorem ggX1_fits_X1_kindBy : GoodIn wsX1_fits wsX1_kindBy := goodIn_r _ [4, 5, 6, 7, 8, 9, 10, 11, 12, 13, 14, 15, 16, 17, 18, 19, 20, 21, 22, 23, 24, 25, 26, 27, 28, 29, 30, 31, 32, 33, 34, 35, 36, 37, 38, 39, 40, 41, 42, 43, 44, 45, 46, 47, 48, 49, 50, 51, 52, 53, 54, 55, 56, 57, 58, 59, 60, 61, 62, 63, 64, 65, 66, 67, 68, 69, 70, 71, 72, 73, 74, 75, 76, 77, 78, 79, 80, 81, 82, 83, 84, 85, 86, 87, 88, 89, 90, 91, 92, 93] (by decide +kernel) (by decide +kernel)
set_option maxRecDepth 20000 in
theorem gX1_fits_X1_kindBy : GoodIn wsX1_fits (va_wsS RX1 233 yX1_kindBy wsX1_kindBy) := goodIn_app (goodIn_of _ (by decide +kernel)) ggX1_fits_X1_kindBy
theorem dX1_fits_0 : decode cX1_fits 0 = .ok (.iload_n 1, 1) := by decide +kernel
theorem dX1_fits_1 : decode cX1_fits 1 = .ok (.bipush 100, 2) := by decide +kernel
theorem dX1_fits_3 : decode cX1_fits 3 = .ok (.if_icmp .ne 21, 3) := by decide +kernel
theorem dX1_fits_6 : decode cX1_fits 6 = .ok (.iload_n 0, 1) := by decide +kernel
theorem dX1_fits_7 : decode cX1_fits 7 = .ok (.bipush 48, 2) := by decide +kernel
theorem dX1_fits_9 : decode cX1_fits 9 = .ok (.if_icmp .lt 13, 3) := by decide +kernel
theorem dX1_fits_12 : decode cX1_fits 12 = .ok (.iload_n 0, 1) := by decide +kernel
theorem dX1_fits_13 : decode cX1_fits 13 = .ok (.bipush 57, 2) := by decide +kernel
theorem dX1_fits_15 : decode cX1_fits 15 = .ok (.if_icmp .gt 7, 3) := by decide +kernel
theorem dX1_fits_18 : decode cX1_fits 18 = .ok (.iconst 1, 1) := by decide +kernel
theorem dX1_fits_19 : decode cX1_fits 19 = .ok (.goto 4, 3) := by decide +kernel
theorem dX1_fits_22 : decode cX1_fits 22 = .ok (.iconst 0, 1) := by decide +kernel
theorem dX1_fits_23 : decode cX1_fits 23 = .ok (.ireturn, 1) := by decide +kernel
theorem dX1_fits_24 : decode cX1_fits 24 = .ok (.iload_n 1, 1) := by decide +kernel
theorem dX1_fits_25 : decode cX1_fits 25 = .ok (.bipush 107, 2) := by decide +kernel
theorem dX1_fits_27 : decode cX1_fits 27 = .ok (.if_icmp .ne 16, 3) := by decide +kernel
theorem dX1_fits_30 : decode cX1_fits 30 = .ok (.iload_n 0, 1) := by decide +kernel
theorem dX1_fits_31 : decode cX1_fits 31 = .ok (.invokestatic 233, 3) := by decide +kernel
theorem dX1_fits_34 : decode cX1_fits 34 = .ok (.ifCond .lt 7, 3) := by decide +kernel
theorem dX1_fits_37 : decode cX1_fits 37 = .ok (.iconst 1, 1) := by decide +kernel
theorem dX1_fits_38 : decode cX1_fits 38 = .ok (.goto 4, 3) := by decide +kernel
theorem dX1_fits_41 : decode cX1_fits 41 = .ok (.iconst 0, 1) := by decide +kernel
theorem dX1_fits_42 : decode cX1_fits 42 = .ok (.ireturn, 1) := by decide +kernel
theorem dX1_fits_43 : decode cX1_fits 43 = .ok (.iload_n 0, 1) := by decide +kernel
theorem dX1_fits_44 : decode cX1_fits 44 = .ok (.iload_n 1, 1) := by decide +kernel
theorem dX1_fits_45 : decode cX1_fits 45 = .ok (.if_icmp .ne 7, 3) := by decide +kernel
theorem dX1_fits_48 : decode cX1_fits 48 = .ok (.iconst 1, 1) := by decide +kernel
theorem dX1_fits_49 : decode cX1_fits 49 = .ok (.goto 4, 3) := by decide +kernel
theorem dX1_fits_52 : decode cX1_fits 52 = .ok (.iconst 0, 1) := by decide +kernel
theorem dX1_fits_53 : decode cX1_fits 53 = .ok (.ireturn, 1) := by decide +kernel
set_option maxRecDepth 20000 in
theorem ggX1_kindBy_J0_indexOf_0f7a4 : GoodIn wsX1_kindBy wsJ0_indexOf_0f7a4 := goodIn_r _ [5, 6, 7, 8, 4, 9, 10, 11, 12, 13, 14, 15, 16, 17, 18, 19, 20, 21, 22, 23, 24, 25, 26, 27, 28, 29, 30, 31, 32, 33, 34, 35, 36, 37, 38, 39, 40, 41, 42, 43, 44, 45, 46, 47, 48, 49, 50, 51, 52, 53, 54, 55, 56, 57, 58, 59, 60, 61, 62, 63, 64, 65, 66, 67, 68, 69, 70, 71, 72, 73, 74, 75, 76, 77, 78, 79, 80, 81, 82, 83, 84, 85, 86, 87, 88, 89] (by decide +kernel) (by decide +kernel)
set_option maxRecDepth 20000 in
theorem gX1_kindBy_J0_indexOf_0f7a4 : GoodIn wsX1_kindBy (wsV RX1 238 RJ0 yJ0_indexOf_0f7a4 wsJ0_indexOf_0f7a4) := goodIn_app (goodIn_of _ (by decide +kernel)) ggX1_kindBy_J0_indexOf_0f7a4
theorem dX1_kindBy_0 : decode cX1_kindBy 0 = .ok (.iload_n 0, 1) := by decide +kernel
theorem dX1_kindBy_1 : decode cX1_kindBy 1 = .ok (.ifCond .ge 7, 3) := by decide +kernel
theorem dX1_kindBy_4 : decode cX1_kindBy 4 = .ok (.iconst (-1), 1) := by decide +kernel
theorem dX1_kindBy_5 : decode cX1_kindBy 5 = .ok (.goto 10, 3) := by decide +kernel
theorem dX1_kindBy_8 : decode cX1_kindBy 8 = .ok (.ldc 236, 2) := by decide +kernel
theorem dX1_kindBy_10 : decode cX1_kindBy 10 = .ok (.iload_n 0, 1) := by decide +kernel
theorem dX1_kindBy_11 : decode cX1_kindBy 11 = .ok (.i2c, 1) := by decide +kernel
theorem dX1_kindBy_12 : decode cX1_kindBy 12 = .ok (.invokevirtual 238, 3) := by decide +kernel
theorem dX1_kindBy_15 : decode cX1_kindBy 15 = .ok (.ireturn, 1) := by decide +kernel
set_option maxRecDepth 20000 in
theorem ggX1_placeAmiss_X1_letterAt : GoodIn wsX1_placeAmiss wsX1_letterAt := goodIn_r _ [6, 1, 7, 131, 132, 133, 134, 135, 136, 137, 138, 139, 140, 141, 142] (by decide +kernel) (by decide +kernel)
set_option maxRecDepth 20000 in
theorem gX1_placeAmiss_X1_letterAt : GoodIn wsX1_placeAmiss (wsV RX1 243 RX1 yX1_letterAt wsX1_letterAt) := goodIn_app (goodIn_of _ (by decide +kernel)) ggX1_placeAmiss_X1_letterAt
set_option maxRecDepth 20000 in
theorem ggX1_placeAmiss_X1_formBehind : GoodIn wsX1_placeAmiss wsX1_formBehind := goodIn_r _ [10] (by decide +kernel) (by decide +kernel)
set_option maxRecDepth 20000 in
theorem gX1_placeAmiss_X1_formBehind : GoodIn wsX1_placeAmiss (va_wsS RX1 246 yX1_formBehind wsX1_formBehind) := goodIn_app (goodIn_of _ (by decide +kernel)) ggX1_placeAmiss_X1_formBehind
set_option maxRecDepth 20000 in
theorem ggX1_placeAmiss_J0_isEmpty_aae02 : GoodIn wsX1_placeAmiss wsJ0_isEmpty_aae02 := goodIn_r _ [15, 16] (by decide +kernel) (by decide +kernel)
set_option maxRecDepth 20000 in
theorem gX1_placeAmiss_J0_isEmpty_aae02 : GoodIn wsX1_placeAmiss (wsV RX1 250 RJ0 yJ0_isEmpty_aae02 wsJ0_isEmpty_aae02) := goodIn_app (goodIn_of _ (by decide +kernel)) ggX1_placeAmiss_J0_isEmpty_aae02
set_option maxRecDepth 20000 in
theorem ggX1_placeAmiss_J0_length_8abf5 : GoodIn wsX1_placeAmiss wsJ0_length_8abf5 := goodIn_r _ [20, 16, 21, 22, 23, 14, 24, 25, 26] (by decide +kernel) (by decide +kernel)
set_option maxRecDepth 20000 in
theorem gX1_placeAmiss_J0_length_8abf5 : GoodIn wsX1_placeAmiss (wsV RX1 253 RJ0 yJ0_length_8abf5 wsJ0_length_8abf5) := goodIn_app (goodIn_of _ (by decide +kernel)) ggX1_placeAmiss_J0_length_8abf5
set_option maxRecDepth 20000 in
theorem ggX1_placeAmiss_J0_charAt_5068e : GoodIn wsX1_placeAmiss wsJ0_charAt_5068e := goodIn_r _ [30, 16, 31, 32, 33, 14, 34, 25, 26, 35, 36, 37, 38, 39, 40, 41, 42, 43, 44, 45, 46, 47, 48, 49, 50, 51, 52, 53, 54, 55, 56, 57, 58, 59, 60, 61, 62, 63] (by decide +kernel) (by decide +kernel)
set_option maxRecDepth 20000 in
theorem gX1_placeAmiss_J0_charAt_5068e : GoodIn wsX1_placeAmiss (wsV RX1 256 RJ0 yJ0_charAt_5068e wsJ0_charAt_5068e) := goodIn_app (goodIn_of _ (by decide +kernel)) ggX1_placeAmiss_J0_charAt_5068e
set_option maxRecDepth 20000 in
theorem ggX1_placeAmiss_X1_fits : GoodIn wsX1_placeAmiss wsX1_fits := goodIn_r _ [66, 67, 68, 5, 69, 70, 71, 72, 14, 73, 74, 75, 76, 77, 16, 31, 32, 33, 34, 25, 26, 78, 18, 19, 20, 21, 22, 23, 24, 79, 80, 37, 81, 82, 83, 84, 85, 86, 87, 88, 89, 90, 91, 92, 93, 94, 95, 96, 49, 97, 98, 99, 100, 101, 102, 103, 104, 105, 106, 54, 55, 56, 107, 108, 109, 42, 110, 111, 45, 112, 113, 114, 115, 58, 59, 60, 61, 62, 63, 116, 117, 118, 119, 120, 121, 122, 123, 124, 125, 126, 127, 128, 129, 130] (by decide +kernel) (by decide +kernel)
set_option maxRecDepth 20000 in
theorem gX1_placeAmiss_X1_fits : GoodIn wsX1_placeAmiss (va_wsS RX1 260 yX1_fits wsX1_fits) := goodIn_app (goodIn_of _ (by decide +kernel)) ggX1_placeAmiss_X1_fits
theorem dX1_placeAmiss_0 : decode cX1_placeAmiss 0 = .ok (.aload_n 0, 1) := by decide +kernel
theorem dX1_placeAmiss_1 : decode cX1_placeAmiss 1 = .ok (.getfield 42, 3) := by decide +kernel
theorem dX1_placeAmiss_4 : decode cX1_placeAmiss 4 = .ok (.ifCond .ne 5, 3) := by decide +kernel
theorem dX1_placeAmiss_7 : decode cX1_placeAmiss 7 = .ok (.iconst 0, 1) := by decide +kernel
theorem dX1_placeAmiss_8 : decode cX1_placeAmiss 8 = .ok (.ireturn, 1) := by decide +kernel
theorem dX1_placeAmiss_9 : decode cX1_placeAmiss 9 = .ok (.iconst 0, 1) := by decide +kernel
theorem dX1_placeAmiss_10 : decode cX1_placeAmiss 10 = .ok (.istore_n 1, 1) := by decide +kernel
theorem dX1_placeAmiss_11 : decode cX1_placeAmiss 11 = .ok (.iload_n 1, 1) := by decide +kernel
theorem dX1_placeAmiss_12 : decode cX1_placeAmiss 12 = .ok (.aload_n 0, 1) := by decide +kernel
theorem dX1_placeAmiss_13 : decode cX1_placeAmiss 13 = .ok (.getfield 42, 3) := by decide +kernel
theorem dX1_placeAmiss_16 : decode cX1_placeAmiss 16 = .ok (.if_icmp .ge 64, 3) := by decide +kernel
theorem dX1_placeAmiss_19 : decode cX1_placeAmiss 19 = .ok (.aload_n 0, 1) := by decide +kernel
theorem dX1_placeAmiss_20 : decode cX1_placeAmiss 20 = .ok (.iload_n 1, 1) := by decide +kernel
theorem dX1_placeAmiss_21 : decode cX1_placeAmiss 21 = .ok (.invokevirtual 243, 3) := by decide +kernel
theorem dX1_placeAmiss_24 : decode cX1_placeAmiss 24 = .ok (.invokestatic 246, 3) := by decide +kernel
theorem dX1_placeAmiss_27 : decode cX1_placeAmiss 27 = .ok (.astore_n 2, 1) := by decide +kernel
theorem dX1_placeAmiss_28 : decode cX1_placeAmiss 28 = .ok (.aload_n 2, 1) := by decide +kernel
theorem dX1_placeAmiss_29 : decode cX1_placeAmiss 29 = .ok (.invokevirtual 250, 3) := by decide +kernel
theorem dX1_placeAmiss_32 : decode cX1_placeAmiss 32 = .ok (.ifCond .eq 5, 3) := by decide +kernel
theorem dX1_placeAmiss_35 : decode cX1_placeAmiss 35 = .ok (.iload_n 1, 1) := by decide +kernel
theorem dX1_placeAmiss_36 : decode cX1_placeAmiss 36 = .ok (.ireturn, 1) := by decide +kernel
theorem dX1_placeAmiss_37 : decode cX1_placeAmiss 37 = .ok (.iinc 1 1, 3) := by decide +kernel
theorem dX1_placeAmiss_40 : decode cX1_placeAmiss 40 = .ok (.iconst 0, 1) := by decide +kernel
theorem dX1_placeAmiss_41 : decode cX1_placeAmiss 41 = .ok (.istore_n 3, 1) := by decide +kernel
theorem dX1_placeAmiss_42 : decode cX1_placeAmiss 42 = .ok (.iload_n 3, 1) := by decide +kernel
theorem dX1_placeAmiss_43 : decode cX1_placeAmiss 43 = .ok (.aload_n 2, 1) := by decide +kernel
theorem dX1_placeAmiss_44 : decode cX1_placeAmiss 44 = .ok (.invokevirtual 253, 3) := by decide +kernel
theorem dX1_placeAmiss_47 : decode cX1_placeAmiss 47 = .ok (.if_icmp .ge 30, 3) := by decide +kernel
theorem dX1_placeAmiss_50 : decode cX1_placeAmiss 50 = .ok (.aload_n 0, 1) := by decide +kernel
theorem dX1_placeAmiss_51 : decode cX1_placeAmiss 51 = .ok (.iload_n 1, 1) := by decide +kernel
theorem dX1_placeAmiss_52 : decode cX1_placeAmiss 52 = .ok (.invokevirtual 243, 3) := by decide +kernel
theorem dX1_placeAmiss_55 : decode cX1_placeAmiss 55 = .ok (.aload_n 2, 1) := by decide +kernel
theorem dX1_placeAmiss_56 : decode cX1_placeAmiss 56 = .ok (.iload_n 3, 1) := by decide +kernel
theorem dX1_placeAmiss_57 : decode cX1_placeAmiss 57 = .ok (.invokevirtual 256, 3) := by decide +kernel
theorem dX1_placeAmiss_60 : decode cX1_placeAmiss 60 = .ok (.invokestatic 260, 3) := by decide +kernel
theorem dX1_placeAmiss_63 : decode cX1_placeAmiss 63 = .ok (.ifCond .ne 5, 3) := by decide +kernel
theorem dX1_placeAmiss_66 : decode cX1_placeAmiss 66 = .ok (.iload_n 1, 1) := by decide +kernel
theorem dX1_placeAmiss_67 : decode cX1_placeAmiss 67 = .ok (.ireturn, 1) := by decide +kernel
theorem dX1_placeAmiss_68 : decode cX1_placeAmiss 68 = .ok (.iinc 1 1, 3) := by decide +kernel
theorem dX1_placeAmiss_71 : decode cX1_placeAmiss 71 = .ok (.iinc 3 1, 3) := by decide +kernel
theorem dX1_placeAmiss_74 : decode cX1_placeAmiss 74 = .ok (.goto (-32), 3) := by decide +kernel
theorem dX1_placeAmiss_77 : decode cX1_placeAmiss 77 = .ok (.goto (-66), 3) := by decide +kernel
theorem dX1_placeAmiss_80 : decode cX1_placeAmiss 80 = .ok (.iconst (-1), 1) := by decide +kernel
theorem dX1_placeAmiss_81 : decode cX1_placeAmiss 81 = .ok (.ireturn, 1) := by decide +kernel
set_option maxRecDepth 20000 in
theorem ggX1_tellAll_X0_becomes : GoodIn wsX1_tellAll wsX0_becomes := goodIn_r _ [8, 9, 10, 11, 12, 13, 14, 15, 16, 17, 18, 19, 20, 231, 232, 233, 234, 235, 236, 237, 238] (by decide +kernel) (by decide +kernel)
set_option maxRecDepth 20000 in
theorem gX1_tellAll_X0_becomes : GoodIn wsX1_tellAll (wsV RX1 124 RX0 yX0_becomes wsX0_becomes) := goodIn_app (goodIn_of _ (by decide +kernel)) ggX1_tellAll_X0_becomes
set_option maxRecDepth 20000 in
theorem ggX1_tellAll_X1_tellOne : GoodIn wsX1_tellAll wsX1_tellOne := goodIn_r _ [25, 26, 27, 28, 24, 29, 3, 30, 31, 32, 33, 34, 35, 36, 37, 38, 39, 40, 41, 42, 43, 44, 45, 46, 47, 48, 49, 50, 51, 52, 53, 54, 55, 56, 57, 58, 59, 60, 61, 62, 63, 64, 65, 66, 67, 68, 69, 70, 71, 72, 73, 74, 75, 76, 77, 78, 79, 80, 81, 82, 83, 84, 85, 86, 87, 88, 89, 90, 91, 92, 93, 94, 95, 96, 97, 98, 99, 100, 101, 102, 103, 104, 105, 106, 107, 108, 109, 110, 111, 112, 113, 114, 115, 116, 117, 118, 119, 120, 121, 122, 123, 124, 125, 126, 127, 128, 129, 130, 131, 132, 133, 134, 1, 135, 136, 137, 138, 139, 140, 7, 141, 9, 142, 143, 144, 145, 14, 146, 147, 148, 149, 150, 151, 152, 153, 15, 154, 155, 156, 157, 158, 159, 160, 161, 162, 163, 164, 19, 165, 166, 167, 168, 16, 17, 18, 169, 170, 171, 172, 173, 174, 175, 176, 177, 178, 179, 180, 181, 182, 183, 184, 185, 186, 187, 188, 189, 190, 191, 192, 193, 194, 195, 196, 197, 198, 199, 200, 20, 201, 202, 203, 204, 205, 206, 207, 208, 209, 210, 211, 212, 213, 214, 219, 220, 221, 222, 223, 224, 225, 226, 227, 228, 229, 230, 231, 232, 233, 234, 235, 236, 237, 238] (by decide +kernel) (by decide +kernel)
set_option maxRecDepth 20000 in
theorem gX1_tellAll_X1_tellOne : GoodIn wsX1_tellAll (wsV RX1 264 RX1 yX1_tellOne wsX1_tellOne) := goodIn_app (goodIn_of _ (by decide +kernel)) ggX1_tellAll_X1_tellOne
set_option maxRecDepth 20000 in
theorem ggX1_tellAll_X1_letterAt : GoodIn wsX1_tellAll wsX1_letterAt := goodIn_r _ [29, 3, 30, 219, 220, 221, 222, 223, 224, 225, 226, 227, 228, 229, 230] (by decide +kernel) (by decide +kernel)
set_option maxRecDepth 20000 in
theorem gX1_tellAll_X1_letterAt : GoodIn wsX1_tellAll (wsV RX1 243 RX1 yX1_letterAt wsX1_letterAt) := goodIn_app (goodIn_of _ (by decide +kernel)) ggX1_tellAll_X1_letterAt
set_option maxRecDepth 20000 in
theorem ggX1_tellAll_X1_formBehind : GoodIn wsX1_tellAll wsX1_formBehind := goodIn_r _ [217] (by decide +kernel) (by decide +kernel)
set_option maxRecDepth 20000 in
theorem gX1_tellAll_X1_formBehind : GoodIn wsX1_tellAll (va_wsS RX1 246 yX1_formBehind wsX1_formBehind) := goodIn_app (goodIn_of _ (by decide +kernel)) ggX1_tellAll_X1_formBehind
set_option maxRecDepth 20000 in
theorem ggX1_tellAll_J0_length_8abf5 : GoodIn wsX1_tellAll wsJ0_length_8abf5 := goodIn_r _ [61, 51, 62, 63, 64, 45, 65, 56, 57] (by decide +kernel) (by decide +kernel)
set_option maxRecDepth 20000 in
theorem gX1_tellAll_J0_length_8abf5 : GoodIn wsX1_tellAll (wsV RX1 253 RJ0 yJ0_length_8abf5 wsJ0_length_8abf5) := goodIn_app (goodIn_of _ (by decide +kernel)) ggX1_tellAll_J0_length_8abf5
theorem dX1_tellAll_0 : decode cX1_tellAll 0 = .ok (.aload_n 0, 1) := by decide +kernel
theorem dX1_tellAll_1 : decode cX1_tellAll 1 = .ok (.getfield 16, 3) := by decide +kernel
theorem dX1_tellAll_4 : decode cX1_tellAll 4 = .ok (.aload_n 0, 1) := by decide +kernel
theorem dX1_tellAll_5 : decode cX1_tellAll 5 = .ok (.getfield 10, 3) := by decide +kernel
theorem dX1_tellAll_8 : decode cX1_tellAll 8 = .ok (.invokevirtual 124, 3) := by decide +kernel
theorem dX1_tellAll_11 : decode cX1_tellAll 11 = .ok (.iconst 0, 1) := by decide +kernel
theorem dX1_tellAll_12 : decode cX1_tellAll 12 = .ok (.istore_n 1, 1) := by decide +kernel
theorem dX1_tellAll_13 : decode cX1_tellAll 13 = .ok (.iconst 0, 1) := by decide +kernel
theorem dX1_tellAll_14 : decode cX1_tellAll 14 = .ok (.istore_n 2, 1) := by decide +kernel
theorem dX1_tellAll_15 : decode cX1_tellAll 15 = .ok (.iload_n 2, 1) := by decide +kernel
theorem dX1_tellAll_16 : decode cX1_tellAll 16 = .ok (.aload_n 0, 1) := by decide +kernel
theorem dX1_tellAll_17 : decode cX1_tellAll 17 = .ok (.getfield 42, 3) := by decide +kernel
theorem dX1_tellAll_20 : decode cX1_tellAll 20 = .ok (.if_icmp .ge 39, 3) := by decide +kernel
theorem dX1_tellAll_23 : decode cX1_tellAll 23 = .ok (.aload_n 0, 1) := by decide +kernel
theorem dX1_tellAll_24 : decode cX1_tellAll 24 = .ok (.iload_n 2, 1) := by decide +kernel
theorem dX1_tellAll_25 : decode cX1_tellAll 25 = .ok (.invokevirtual 264, 3) := by decide +kernel
theorem dX1_tellAll_28 : decode cX1_tellAll 28 = .ok (.ifCond .ne 9, 3) := by decide +kernel
theorem dX1_tellAll_31 : decode cX1_tellAll 31 = .ok (.sipush (-2000), 3) := by decide +kernel
theorem dX1_tellAll_34 : decode cX1_tellAll 34 = .ok (.iload_n 2, 1) := by decide +kernel
theorem dX1_tellAll_35 : decode cX1_tellAll 35 = .ok (.isub, 1) := by decide +kernel
theorem dX1_tellAll_36 : decode cX1_tellAll 36 = .ok (.ireturn, 1) := by decide +kernel
theorem dX1_tellAll_37 : decode cX1_tellAll 37 = .ok (.iinc 1 1, 3) := by decide +kernel
theorem dX1_tellAll_40 : decode cX1_tellAll 40 = .ok (.iload_n 2, 1) := by decide +kernel
theorem dX1_tellAll_41 : decode cX1_tellAll 41 = .ok (.iconst 1, 1) := by decide +kernel
theorem dX1_tellAll_42 : decode cX1_tellAll 42 = .ok (.aload_n 0, 1) := by decide +kernel
theorem dX1_tellAll_43 : decode cX1_tellAll 43 = .ok (.iload_n 2, 1) := by decide +kernel
theorem dX1_tellAll_44 : decode cX1_tellAll 44 = .ok (.invokevirtual 243, 3) := by decide +kernel
theorem dX1_tellAll_47 : decode cX1_tellAll 47 = .ok (.invokestatic 246, 3) := by decide +kernel
theorem dX1_tellAll_50 : decode cX1_tellAll 50 = .ok (.invokevirtual 253, 3) := by decide +kernel
theorem dX1_tellAll_53 : decode cX1_tellAll 53 = .ok (.iadd, 1) := by decide +kernel
theorem dX1_tellAll_54 : decode cX1_tellAll 54 = .ok (.iadd, 1) := by decide +kernel
theorem dX1_tellAll_55 : decode cX1_tellAll 55 = .ok (.istore_n 2, 1) := by decide +kernel
theorem dX1_tellAll_56 : decode cX1_tellAll 56 = .ok (.goto (-41), 3) := by decide +kernel
theorem dX1_tellAll_59 : decode cX1_tellAll 59 = .ok (.aload_n 0, 1) := by decide +kernel
theorem dX1_tellAll_60 : decode cX1_tellAll 60 = .ok (.getfield 10, 3) := by decide +kernel
theorem dX1_tellAll_63 : decode cX1_tellAll 63 = .ok (.aload_n 0, 1) := by decide +kernel
theorem dX1_tellAll_64 : decode cX1_tellAll 64 = .ok (.getfield 16, 3) := by decide +kernel
theorem dX1_tellAll_67 : decode cX1_tellAll 67 = .ok (.invokevirtual 124, 3) := by decide +kernel
theorem dX1_tellAll_70 : decode cX1_tellAll 70 = .ok (.iload_n 1, 1) := by decide +kernel
theorem dX1_tellAll_71 : decode cX1_tellAll 71 = .ok (.ireturn, 1) := by decide +kernel
set_option maxRecDepth 20000 in
theorem ggX1_tellOne_X1_letterAt : GoodIn wsX1_tellOne wsX1_letterAt := goodIn_r _ [5, 6, 7, 202, 203, 204, 205, 206, 207, 208, 209, 210, 211, 212, 213] (by decide +kernel) (by decide +kernel)
set_option maxRecDepth 20000 in
theorem gX1_tellOne_X1_letterAt : GoodIn wsX1_tellOne (wsV RX1 243 RX1 yX1_letterAt wsX1_letterAt) := goodIn_app (goodIn_of _ (by decide +kernel)) ggX1_tellOne_X1_letterAt
set_option maxRecDepth 20000 in
theorem ggX1_tellOne_X1_number : GoodIn wsX1_tellOne wsX1_number := goodIn_r _ [11, 12, 13, 14, 4, 15, 1, 2, 3, 5, 6, 7, 202, 203, 204, 205, 206, 207, 208, 209, 210, 211, 212, 213] (by decide +kernel) (by decide +kernel)
set_option maxRecDepth 20000 in
theorem gX1_tellOne_X1_number : GoodIn wsX1_tellOne (wsV RX1 267 RX1 yX1_number wsX1_number) := goodIn_app (goodIn_of _ (by decide +kernel)) ggX1_tellOne_X1_number
set_option maxRecDepth 20000 in
theorem ggX1_tellOne_X1_kindBy : GoodIn wsX1_tellOne wsX1_kindBy := goodIn_r _ [18, 19, 20, 21, 22, 23, 24, 25, 26, 27, 28, 29, 30, 31, 32, 33, 34, 35, 36, 37, 38, 39, 40, 41, 42, 43, 44, 45, 46, 47, 48, 49, 50, 51, 52, 53, 54, 55, 56, 57, 58, 59, 60, 61, 62, 63, 64, 65, 66, 67, 68, 69, 70, 71, 72, 73, 74, 75, 76, 77, 78, 79, 80, 81, 82, 83, 84, 85, 86, 87, 88, 89, 90, 91, 92, 93, 94, 95, 96, 97, 98, 99, 100, 101, 102, 103, 104, 105, 106, 107] (by decide +kernel) (by decide +kernel)
set_option maxRecDepth 20000 in
theorem gX1_tellOne_X1_kindBy : GoodIn wsX1_tellOne (va_wsS RX1 233 yX1_kindBy wsX1_kindBy) := goodIn_app (goodIn_of _ (by decide +kernel)) ggX1_tellOne_X1_kindBy
set_option maxRecDepth 20000 in
theorem ggX1_tellOne_X1_digit : GoodIn wsX1_tellOne wsX1_digit := goodIn_r _ [15, 1, 2, 3, 4, 5, 6, 7, 202, 203, 204, 205, 206, 207, 208, 209, 210, 211, 212, 213] (by decide +kernel) (by decide +kernel)
set_option maxRecDepth 20000 in
theorem gX1_tellOne_X1_digit : GoodIn wsX1_tellOne (wsV RX1 270 RX1 yX1_digit wsX1_digit) := goodIn_app (goodIn_of _ (by decide +kernel)) ggX1_tellOne_X1_digit
set_option maxRecDepth 20000 in
theorem ggX1_tellOne_X1_tellNode : GoodIn wsX1_tellOne wsX1_tellNode := goodIn_r _ [111, 112, 113, 114, 4, 115, 116, 117, 118, 119, 120, 121, 122, 123, 124, 125, 126, 202, 203, 204, 205, 206, 207, 208, 209, 210, 211, 212, 213, 214, 215, 216, 217, 218, 219, 220, 221] (by decide +kernel) (by decide +kernel)
set_option maxRecDepth 20000 in
theorem gX1_tellOne_X1_tellNode : GoodIn wsX1_tellOne (wsV RX1 273 RX1 yX1_tellNode wsX1_tellNode) := goodIn_app (goodIn_of _ (by decide +kernel)) ggX1_tellOne_X1_tellNode
set_option maxRecDepth 20000 in
theorem ggX1_tellOne_X1_tellWet : GoodIn wsX1_tellOne wsX1_tellWet := goodIn_r _ [130, 112, 113, 114, 4, 115, 131, 132, 133, 119, 134, 135, 202, 203, 204, 205, 206, 207, 208, 209, 210, 211, 212, 213, 214, 215, 216, 217, 218, 219, 220, 221] (by decide +kernel) (by decide +kernel)
set_option maxRecDepth 20000 in
theorem gX1_tellOne_X1_tellWet : GoodIn wsX1_tellOne (wsV RX1 277 RX1 yX1_tellWet wsX1_tellWet) := goodIn_app (goodIn_of _ (by decide +kernel)) ggX1_tellOne_X1_tellWet
set_option maxRecDepth 20000 in
theorem ggX1_tellOne_X1_tellComing : GoodIn wsX1_tellOne wsX1_tellComing := goodIn_r _ [139, 112, 113, 114, 4, 115, 140, 141, 142, 143, 144, 145, 119, 146, 147, 148, 149, 150, 151, 152, 153, 154, 202, 203, 204, 205, 206, 207, 208, 209, 210, 211, 212, 213, 214, 215, 216, 217, 218, 219, 220, 221] (by decide +kernel) (by decide +kernel)
set_option maxRecDepth 20000 in
theorem gX1_tellOne_X1_tellComing : GoodIn wsX1_tellOne (wsV RX1 280 RX1 yX1_tellComing wsX1_tellComing) := goodIn_app (goodIn_of _ (by decide +kernel)) ggX1_tellOne_X1_tellComing
set_option maxRecDepth 20000 in
theorem ggX1_tellOne_X1_tellHeading : GoodIn wsX1_tellOne wsX1_tellHeading := goodIn_r _ [158, 112, 159, 160, 161, 119, 162, 147, 140, 141, 4, 142, 163, 164, 165, 166, 153, 167, 202, 203, 204, 205, 206, 207, 208, 209, 210, 211, 212, 213, 214, 215, 216, 217, 218, 219, 220, 221] (by decide +kernel) (by decide +kernel)
set_option maxRecDepth 20000 in
theorem gX1_tellOne_X1_tellHeading : GoodIn wsX1_tellOne (wsV RX1 283 RX1 yX1_tellHeading wsX1_tellHeading) := goodIn_app (goodIn_of _ (by decide +kernel)) ggX1_tellOne_X1_tellHeading
set_option maxRecDepth 20000 in
theorem ggX1_tellOne_X1_tellPlace : GoodIn wsX1_tellOne wsX1_tellPlace := goodIn_r _ [171, 112, 159, 160, 161, 119, 162, 147, 113, 114, 4, 115, 172, 173, 174, 175, 152, 167, 202, 203, 204, 205, 206, 207, 208, 209, 210, 211, 212, 213, 214, 215, 216, 217, 218, 219, 220, 221] (by decide +kernel) (by decide +kernel)
set_option maxRecDepth 20000 in
theorem gX1_tellOne_X1_tellPlace : GoodIn wsX1_tellOne (wsV RX1 286 RX1 yX1_tellPlace wsX1_tellPlace) := goodIn_app (goodIn_of _ (by decide +kernel)) ggX1_tellOne_X1_tellPlace
set_option maxRecDepth 20000 in
theorem ggX1_tellOne_X1_tellSteps : GoodIn wsX1_tellOne wsX1_tellSteps := goodIn_r _ [179, 112, 180, 181, 4, 182, 183, 184, 185, 119, 186, 187, 188, 189, 190, 191, 147, 192, 193, 194, 195, 152, 135, 121, 126, 153, 154, 196, 52, 49, 53, 167, 160, 161, 162, 114, 115, 197, 198, 199, 200, 201, 202, 203, 204, 205, 206, 207, 208, 209, 210, 211, 212, 213, 214, 215, 216, 217, 218, 219, 220, 221] (by decide +kernel) (by decide +kernel)
set_option maxRecDepth 20000 in
theorem gX1_tellOne_X1_tellSteps : GoodIn wsX1_tellOne (wsV RX1 289 RX1 yX1_tellSteps wsX1_tellSteps) := goodIn_app (goodIn_of _ (by decide +kernel)) ggX1_tellOne_X1_tellSteps
theorem dX1_tellOne_0 : decode cX1_tellOne 0 = .ok (.aload_n 0, 1) := by decide +kernel
theorem dX1_tellOne_1 : decode cX1_tellOne 1 = .ok (.iload_n 1, 1) := by decide +kernel
theorem dX1_tellOne_2 : decode cX1_tellOne 2 = .ok (.invokevirtual 243, 3) := by decide +kernel
theorem dX1_tellOne_5 : decode cX1_tellOne 5 = .ok (.lookupswitch 156 #[(97, 137), (104, 118), (110, 51), (112, 99), (119, 80)], 51) := by decide +kernel
theorem dX1_tellOne_56 : decode cX1_tellOne 56 = .ok (.aload_n 0, 1) := by decide +kernel
theorem dX1_tellOne_57 : decode cX1_tellOne 57 = .ok (.aload_n 0, 1) := by decide +kernel
theorem dX1_tellOne_58 : decode cX1_tellOne 58 = .ok (.iload_n 1, 1) := by decide +kernel
theorem dX1_tellOne_59 : decode cX1_tellOne 59 = .ok (.iconst 1, 1) := by decide +kernel
theorem dX1_tellOne_60 : decode cX1_tellOne 60 = .ok (.iadd, 1) := by decide +kernel
theorem dX1_tellOne_61 : decode cX1_tellOne 61 = .ok (.invokevirtual 267, 3) := by decide +kernel
theorem dX1_tellOne_64 : decode cX1_tellOne 64 = .ok (.aload_n 0, 1) := by decide +kernel
theorem dX1_tellOne_65 : decode cX1_tellOne 65 = .ok (.iload_n 1, 1) := by decide +kernel
theorem dX1_tellOne_66 : decode cX1_tellOne 66 = .ok (.iconst 3, 1) := by decide +kernel
theorem dX1_tellOne_67 : decode cX1_tellOne 67 = .ok (.iadd, 1) := by decide +kernel
theorem dX1_tellOne_68 : decode cX1_tellOne 68 = .ok (.invokevirtual 243, 3) := by decide +kernel
theorem dX1_tellOne_71 : decode cX1_tellOne 71 = .ok (.invokestatic 233, 3) := by decide +kernel
theorem dX1_tellOne_74 : decode cX1_tellOne 74 = .ok (.aload_n 0, 1) := by decide +kernel
theorem dX1_tellOne_75 : decode cX1_tellOne 75 = .ok (.iload_n 1, 1) := by decide +kernel
theorem dX1_tellOne_76 : decode cX1_tellOne 76 = .ok (.iconst 4, 1) := by decide +kernel
theorem dX1_tellOne_77 : decode cX1_tellOne 77 = .ok (.iadd, 1) := by decide +kernel
theorem dX1_tellOne_78 : decode cX1_tellOne 78 = .ok (.invokevirtual 270, 3) := by decide +kernel
theorem dX1_tellOne_81 : decode cX1_tellOne 81 = .ok (.invokevirtual 273, 3) := by decide +kernel
theorem dX1_tellOne_84 : decode cX1_tellOne 84 = .ok (.ireturn, 1) := by decide +kernel
theorem dX1_tellOne_85 : decode cX1_tellOne 85 = .ok (.aload_n 0, 1) := by decide +kernel
theorem dX1_tellOne_86 : decode cX1_tellOne 86 = .ok (.aload_n 0, 1) := by decide +kernel
theorem dX1_tellOne_87 : decode cX1_tellOne 87 = .ok (.iload_n 1, 1) := by decide +kernel
theorem dX1_tellOne_88 : decode cX1_tellOne 88 = .ok (.iconst 1, 1) := by decide +kernel
theorem dX1_tellOne_89 : decode cX1_tellOne 89 = .ok (.iadd, 1) := by decide +kernel
theorem dX1_tellOne_90 : decode cX1_tellOne 90 = .ok (.invokevirtual 267, 3) := by decide +kernel
theorem dX1_tellOne_93 : decode cX1_tellOne 93 = .ok (.aload_n 0, 1) := by decide +kernel
theorem dX1_tellOne_94 : decode cX1_tellOne 94 = .ok (.iload_n 1, 1) := by decide +kernel
theorem dX1_tellOne_95 : decode cX1_tellOne 95 = .ok (.iconst 3, 1) := by decide +kernel
theorem dX1_tellOne_96 : decode cX1_tellOne 96 = .ok (.iadd, 1) := by decide +kernel
theorem dX1_tellOne_97 : decode cX1_tellOne 97 = .ok (.invokevirtual 270, 3) := by decide +kernel
theorem dX1_tellOne_100 : decode cX1_tellOne 100 = .ok (.invokevirtual 277, 3) := by decide +kernel
theorem dX1_tellOne_103 : decode cX1_tellOne 103 = .ok (.ireturn, 1) := by decide +kernel
theorem dX1_tellOne_104 : decode cX1_tellOne 104 = .ok (.aload_n 0, 1) := by decide +kernel
theorem dX1_tellOne_105 : decode cX1_tellOne 105 = .ok (.aload_n 0, 1) := by decide +kernel
theorem dX1_tellOne_106 : decode cX1_tellOne 106 = .ok (.iload_n 1, 1) := by decide +kernel
theorem dX1_tellOne_107 : decode cX1_tellOne 107 = .ok (.iconst 1, 1) := by decide +kernel
theorem dX1_tellOne_108 : decode cX1_tellOne 108 = .ok (.iadd, 1) := by decide +kernel
theorem dX1_tellOne_109 : decode cX1_tellOne 109 = .ok (.invokevirtual 267, 3) := by decide +kernel
theorem dX1_tellOne_112 : decode cX1_tellOne 112 = .ok (.aload_n 0, 1) := by decide +kernel
theorem dX1_tellOne_113 : decode cX1_tellOne 113 = .ok (.iload_n 1, 1) := by decide +kernel
theorem dX1_tellOne_114 : decode cX1_tellOne 114 = .ok (.iconst 3, 1) := by decide +kernel
theorem dX1_tellOne_115 : decode cX1_tellOne 115 = .ok (.iadd, 1) := by decide +kernel
theorem dX1_tellOne_116 : decode cX1_tellOne 116 = .ok (.invokevirtual 270, 3) := by decide +kernel
theorem dX1_tellOne_119 : decode cX1_tellOne 119 = .ok (.invokevirtual 280, 3) := by decide +kernel
theorem dX1_tellOne_122 : decode cX1_tellOne 122 = .ok (.ireturn, 1) := by decide +kernel
theorem dX1_tellOne_123 : decode cX1_tellOne 123 = .ok (.aload_n 0, 1) := by decide +kernel
theorem dX1_tellOne_124 : decode cX1_tellOne 124 = .ok (.aload_n 0, 1) := by decide +kernel
theorem dX1_tellOne_125 : decode cX1_tellOne 125 = .ok (.iload_n 1, 1) := by decide +kernel
theorem dX1_tellOne_126 : decode cX1_tellOne 126 = .ok (.iconst 1, 1) := by decide +kernel
theorem dX1_tellOne_127 : decode cX1_tellOne 127 = .ok (.iadd, 1) := by decide +kernel
theorem dX1_tellOne_128 : decode cX1_tellOne 128 = .ok (.invokevirtual 270, 3) := by decide +kernel
theorem dX1_tellOne_131 : decode cX1_tellOne 131 = .ok (.aload_n 0, 1) := by decide +kernel
theorem dX1_tellOne_132 : decode cX1_tellOne 132 = .ok (.iload_n 1, 1) := by decide +kernel
theorem dX1_tellOne_133 : decode cX1_tellOne 133 = .ok (.iconst 2, 1) := by decide +kernel
theorem dX1_tellOne_134 : decode cX1_tellOne 134 = .ok (.iadd, 1) := by decide +kernel
theorem dX1_tellOne_135 : decode cX1_tellOne 135 = .ok (.invokevirtual 270, 3) := by decide +kernel
theorem dX1_tellOne_138 : decode cX1_tellOne 138 = .ok (.invokevirtual 283, 3) := by decide +kernel
theorem dX1_tellOne_141 : decode cX1_tellOne 141 = .ok (.ireturn, 1) := by decide +kernel
theorem dX1_tellOne_142 : decode cX1_tellOne 142 = .ok (.aload_n 0, 1) := by decide +kernel
theorem dX1_tellOne_143 : decode cX1_tellOne 143 = .ok (.aload_n 0, 1) := by decide +kernel
theorem dX1_tellOne_144 : decode cX1_tellOne 144 = .ok (.iload_n 1, 1) := by decide +kernel
theorem dX1_tellOne_145 : decode cX1_tellOne 145 = .ok (.iconst 1, 1) := by decide +kernel
theorem dX1_tellOne_146 : decode cX1_tellOne 146 = .ok (.iadd, 1) := by decide +kernel
theorem dX1_tellOne_147 : decode cX1_tellOne 147 = .ok (.invokevirtual 270, 3) := by decide +kernel
theorem dX1_tellOne_150 : decode cX1_tellOne 150 = .ok (.aload_n 0, 1) := by decide +kernel
theorem dX1_tellOne_151 : decode cX1_tellOne 151 = .ok (.iload_n 1, 1) := by decide +kernel
theorem dX1_tellOne_152 : decode cX1_tellOne 152 = .ok (.iconst 2, 1) := by decide +kernel
theorem dX1_tellOne_153 : decode cX1_tellOne 153 = .ok (.iadd, 1) := by decide +kernel
theorem dX1_tellOne_154 : decode cX1_tellOne 154 = .ok (.invokevirtual 267, 3) := by decide +kernel
theorem dX1_tellOne_157 : decode cX1_tellOne 157 = .ok (.invokevirtual 286, 3) := by decide +kernel
theorem dX1_tellOne_160 : decode cX1_tellOne 160 = .ok (.ireturn, 1) := by decide +kernel
theorem dX1_tellOne_161 : decode cX1_tellOne 161 = .ok (.aload_n 0, 1) := by decide +kernel
theorem dX1_tellOne_162 : decode cX1_tellOne 162 = .ok (.aload_n 0, 1) := by decide +kernel
theorem dX1_tellOne_163 : decode cX1_tellOne 163 = .ok (.iload_n 1, 1) := by decide +kernel
theorem dX1_tellOne_164 : decode cX1_tellOne 164 = .ok (.iconst 1, 1) := by decide +kernel
theorem dX1_tellOne_165 : decode cX1_tellOne 165 = .ok (.iadd, 1) := by decide +kernel
theorem dX1_tellOne_166 : decode cX1_tellOne 166 = .ok (.invokevirtual 267, 3) := by decide +kernel
theorem dX1_tellOne_169 : decode cX1_tellOne 169 = .ok (.invokevirtual 289, 3) := by decide +kernel
theorem dX1_tellOne_172 : decode cX1_tellOne 172 = .ok (.ireturn, 1) := by decide +kernel
set_option maxRecDepth 20000 in
theorem ggX1_digit_X1_letterAt : GoodIn wsX1_digit wsX1_letterAt := goodIn_r _ [5, 6, 7, 8, 9, 10, 11, 12, 13, 14, 15, 16, 17, 18, 19] (by decide +kernel) (by decide +kernel)
set_option maxRecDepth 20000 in
theorem gX1_digit_X1_letterAt : GoodIn wsX1_digit (wsV RX1 243 RX1 yX1_letterAt wsX1_letterAt) := goodIn_app (goodIn_of _ (by decide +kernel)) ggX1_digit_X1_letterAt
theorem dX1_digit_0 : decode cX1_digit 0 = .ok (.aload_n 0, 1) := by decide +kernel
theorem dX1_digit_1 : decode cX1_digit 1 = .ok (.iload_n 1, 1) := by decide +kernel
theorem dX1_digit_2 : decode cX1_digit 2 = .ok (.invokevirtual 243, 3) := by decide +kernel
theorem dX1_digit_5 : decode cX1_digit 5 = .ok (.bipush 48, 2) := by decide +kernel
theorem dX1_digit_7 : decode cX1_digit 7 = .ok (.isub, 1) := by decide +kernel
theorem dX1_digit_8 : decode cX1_digit 8 = .ok (.ireturn, 1) := by decide +kernel
set_option maxRecDepth 20000 in
theorem ggX1_number_X1_digit : GoodIn wsX1_number wsX1_digit := goodIn_r _ [5, 6, 7, 8, 4, 9, 10, 11, 12, 13, 14, 15, 16, 17, 18, 19, 20, 21, 22, 23] (by decide +kernel) (by decide +kernel)
set_option maxRecDepth 20000 in
theorem gX1_number_X1_digit : GoodIn wsX1_number (wsV RX1 270 RX1 yX1_digit wsX1_digit) := goodIn_app (goodIn_of _ (by decide +kernel)) ggX1_number_X1_digit
theorem dX1_number_0 : decode cX1_number 0 = .ok (.bipush 10, 2) := by decide +kernel
theorem dX1_number_2 : decode cX1_number 2 = .ok (.aload_n 0, 1) := by decide +kernel
theorem dX1_number_3 : decode cX1_number 3 = .ok (.iload_n 1, 1) := by decide +kernel
theorem dX1_number_4 : decode cX1_number 4 = .ok (.invokevirtual 270, 3) := by decide +kernel
theorem dX1_number_7 : decode cX1_number 7 = .ok (.imul, 1) := by decide +kernel
theorem dX1_number_8 : decode cX1_number 8 = .ok (.aload_n 0, 1) := by decide +kernel
theorem dX1_number_9 : decode cX1_number 9 = .ok (.iload_n 1, 1) := by decide +kernel
theorem dX1_number_10 : decode cX1_number 10 = .ok (.iconst 1, 1) := by decide +kernel
theorem dX1_number_11 : decode cX1_number 11 = .ok (.iadd, 1) := by decide +kernel
theorem dX1_number_12 : decode cX1_number 12 = .ok (.invokevirtual 270, 3) := by decide +kernel
theorem dX1_number_15 : decode cX1_number 15 = .ok (.iadd, 1) := by decide +kernel
theorem dX1_number_16 : decode cX1_number 16 = .ok (.ireturn, 1) := by decide +kernel
set_option maxRecDepth 20000 in
theorem ggX1_tellNode_X1_isNode : GoodIn wsX1_tellNode wsX1_isNode := goodIn_r _ [5] (by decide +kernel) (by decide +kernel)
set_option maxRecDepth 20000 in
theorem gX1_tellNode_X1_isNode : GoodIn wsX1_tellNode (va_wsS RX1 53 yX1_isNode wsX1_isNode) := goodIn_app (goodIn_of _ (by decide +kernel)) ggX1_tellNode_X1_isNode
set_option maxRecDepth 20000 in
theorem ggX1_tellNode_X0_putKind : GoodIn wsX1_tellNode wsX0_putKind := goodIn_r _ [10, 11, 3, 4, 5, 29, 30, 31, 32, 33, 34, 35, 36] (by decide +kernel) (by decide +kernel)
set_option maxRecDepth 20000 in
theorem gX1_tellNode_X0_putKind : GoodIn wsX1_tellNode (wsV RX1 83 RX0 yX0_putKind wsX0_putKind) := goodIn_app (goodIn_of _ (by decide +kernel)) ggX1_tellNode_X0_putKind
set_option maxRecDepth 20000 in
theorem ggX1_tellNode_X0_putFigure : GoodIn wsX1_tellNode wsX0_putFigure := goodIn_r _ [15, 16, 3, 4, 5, 29, 30, 31, 32, 33, 34, 35, 36] (by decide +kernel) (by decide +kernel)
set_option maxRecDepth 20000 in
theorem gX1_tellNode_X0_putFigure : GoodIn wsX1_tellNode (wsV RX1 87 RX0 yX0_putFigure wsX0_putFigure) := goodIn_app (goodIn_of _ (by decide +kernel)) ggX1_tellNode_X0_putFigure
theorem dX1_tellNode_0 : decode cX1_tellNode 0 = .ok (.iload_n 1, 1) := by decide +kernel
theorem dX1_tellNode_1 : decode cX1_tellNode 1 = .ok (.invokestatic 53, 3) := by decide +kernel
theorem dX1_tellNode_4 : decode cX1_tellNode 4 = .ok (.ifCond .ne 5, 3) := by decide +kernel
theorem dX1_tellNode_7 : decode cX1_tellNode 7 = .ok (.iconst 0, 1) := by decide +kernel
theorem dX1_tellNode_8 : decode cX1_tellNode 8 = .ok (.ireturn, 1) := by decide +kernel
theorem dX1_tellNode_9 : decode cX1_tellNode 9 = .ok (.aload_n 0, 1) := by decide +kernel
theorem dX1_tellNode_10 : decode cX1_tellNode 10 = .ok (.getfield 16, 3) := by decide +kernel
theorem dX1_tellNode_13 : decode cX1_tellNode 13 = .ok (.iload_n 1, 1) := by decide +kernel
theorem dX1_tellNode_14 : decode cX1_tellNode 14 = .ok (.iload_n 2, 1) := by decide +kernel
theorem dX1_tellNode_15 : decode cX1_tellNode 15 = .ok (.invokevirtual 83, 3) := by decide +kernel
theorem dX1_tellNode_18 : decode cX1_tellNode 18 = .ok (.aload_n 0, 1) := by decide +kernel
theorem dX1_tellNode_19 : decode cX1_tellNode 19 = .ok (.getfield 16, 3) := by decide +kernel
theorem dX1_tellNode_22 : decode cX1_tellNode 22 = .ok (.iload_n 1, 1) := by decide +kernel
theorem dX1_tellNode_23 : decode cX1_tellNode 23 = .ok (.iload_n 3, 1) := by decide +kernel
theorem dX1_tellNode_24 : decode cX1_tellNode 24 = .ok (.invokevirtual 87, 3) := by decide +kernel
theorem dX1_tellNode_27 : decode cX1_tellNode 27 = .ok (.iconst 1, 1) := by decide +kernel
theorem dX1_tellNode_28 : decode cX1_tellNode 28 = .ok (.ireturn, 1) := by decide +kernel
set_option maxRecDepth 20000 in
theorem ggX1_tellWet_X1_isNode : GoodIn wsX1_tellWet wsX1_isNode := goodIn_r _ [5] (by decide +kernel) (by decide +kernel)
set_option maxRecDepth 20000 in
theorem gX1_tellWet_X1_isNode : GoodIn wsX1_tellWet (va_wsS RX1 53 yX1_isNode wsX1_isNode) := goodIn_app (goodIn_of _ (by decide +kernel)) ggX1_tellWet_X1_isNode
set_option maxRecDepth 20000 in
theorem ggX1_tellWet_X0_putWet : GoodIn wsX1_tellWet wsX0_putWet := goodIn_r _ [10, 11, 3, 4, 5, 24, 25, 26, 27, 28, 29, 30, 31] (by decide +kernel) (by decide +kernel)
set_option maxRecDepth 20000 in
theorem gX1_tellWet_X0_putWet : GoodIn wsX1_tellWet (wsV RX1 90 RX0 yX0_putWet wsX0_putWet) := goodIn_app (goodIn_of _ (by decide +kernel)) ggX1_tellWet_X0_putWet
theorem dX1_tellWet_0 : decode cX1_tellWet 0 = .ok (.iload_n 1, 1) := by decide +kernel
theorem dX1_tellWet_1 : decode cX1_tellWet 1 = .ok (.invokestatic 53, 3) := by decide +kernel
theorem dX1_tellWet_4 : decode cX1_tellWet 4 = .ok (.ifCond .ne 5, 3) := by decide +kernel
theorem dX1_tellWet_7 : decode cX1_tellWet 7 = .ok (.iconst 0, 1) := by decide +kernel
theorem dX1_tellWet_8 : decode cX1_tellWet 8 = .ok (.ireturn, 1) := by decide +kernel
theorem dX1_tellWet_9 : decode cX1_tellWet 9 = .ok (.aload_n 0, 1) := by decide +kernel
theorem dX1_tellWet_10 : decode cX1_tellWet 10 = .ok (.getfield 16, 3) := by decide +kernel
theorem dX1_tellWet_13 : decode cX1_tellWet 13 = .ok (.iload_n 1, 1) := by decide +kernel
theorem dX1_tellWet_14 : decode cX1_tellWet 14 = .ok (.iload_n 2, 1) := by decide +kernel
theorem dX1_tellWet_15 : decode cX1_tellWet 15 = .ok (.invokevirtual 90, 3) := by decide +kernel
theorem dX1_tellWet_18 : decode cX1_tellWet 18 = .ok (.iconst 1, 1) := by decide +kernel
theorem dX1_tellWet_19 : decode cX1_tellWet 19 = .ok (.ireturn, 1) := by decide +kernel
set_option maxRecDepth 20000 in
theorem ggX1_tellComing_X1_isNode : GoodIn wsX1_tellComing wsX1_isNode := goodIn_r _ [5] (by decide +kernel) (by decide +kernel)
set_option maxRecDepth 20000 in
theorem gX1_tellComing_X1_isNode : GoodIn wsX1_tellComing (va_wsS RX1 53 yX1_isNode wsX1_isNode) := goodIn_app (goodIn_of _ (by decide +kernel)) ggX1_tellComing_X1_isNode
set_option maxRecDepth 20000 in
theorem ggX1_tellComing_X1_isWay : GoodIn wsX1_tellComing wsX1_isWay := goodIn_r _ [8] (by decide +kernel) (by decide +kernel)
set_option maxRecDepth 20000 in
theorem gX1_tellComing_X1_isWay : GoodIn wsX1_tellComing (va_wsS RX1 93 yX1_isWay wsX1_isWay) := goodIn_app (goodIn_of _ (by decide +kernel)) ggX1_tellComing_X1_isWay
set_option maxRecDepth 20000 in
theorem ggX1_tellComing_X0_isFull : GoodIn wsX1_tellComing wsX0_isFull := goodIn_r _ [13, 14, 34, 35, 36, 37, 38, 39, 40, 41] (by decide +kernel) (by decide +kernel)
set_option maxRecDepth 20000 in
theorem gX1_tellComing_X0_isFull : GoodIn wsX1_tellComing (wsV RX1 96 RX0 yX0_isFull wsX0_isFull) := goodIn_app (goodIn_of _ (by decide +kernel)) ggX1_tellComing_X0_isFull
set_option maxRecDepth 20000 in
theorem ggX1_tellComing_X0_add : GoodIn wsX1_tellComing wsX0_add := goodIn_r _ [18, 14, 19, 20, 21, 34, 35, 36, 37, 38, 39, 40, 41] (by decide +kernel) (by decide +kernel)
set_option maxRecDepth 20000 in
theorem gX1_tellComing_X0_add : GoodIn wsX1_tellComing (wsV RX1 100 RX0 yX0_add wsX0_add) := goodIn_app (goodIn_of _ (by decide +kernel)) ggX1_tellComing_X0_add
theorem dX1_tellComing_0 : decode cX1_tellComing 0 = .ok (.iload_n 1, 1) := by decide +kernel
theorem dX1_tellComing_1 : decode cX1_tellComing 1 = .ok (.invokestatic 53, 3) := by decide +kernel
theorem dX1_tellComing_4 : decode cX1_tellComing 4 = .ok (.ifCond .eq 20, 3) := by decide +kernel
theorem dX1_tellComing_7 : decode cX1_tellComing 7 = .ok (.iload_n 2, 1) := by decide +kernel
theorem dX1_tellComing_8 : decode cX1_tellComing 8 = .ok (.invokestatic 93, 3) := by decide +kernel
theorem dX1_tellComing_11 : decode cX1_tellComing 11 = .ok (.ifCond .eq 13, 3) := by decide +kernel
theorem dX1_tellComing_14 : decode cX1_tellComing 14 = .ok (.aload_n 0, 1) := by decide +kernel
theorem dX1_tellComing_15 : decode cX1_tellComing 15 = .ok (.getfield 16, 3) := by decide +kernel
theorem dX1_tellComing_18 : decode cX1_tellComing 18 = .ok (.invokevirtual 96, 3) := by decide +kernel
theorem dX1_tellComing_21 : decode cX1_tellComing 21 = .ok (.ifCond .eq 5, 3) := by decide +kernel
theorem dX1_tellComing_24 : decode cX1_tellComing 24 = .ok (.iconst 0, 1) := by decide +kernel
theorem dX1_tellComing_25 : decode cX1_tellComing 25 = .ok (.ireturn, 1) := by decide +kernel
theorem dX1_tellComing_26 : decode cX1_tellComing 26 = .ok (.aload_n 0, 1) := by decide +kernel
theorem dX1_tellComing_27 : decode cX1_tellComing 27 = .ok (.getfield 16, 3) := by decide +kernel
theorem dX1_tellComing_30 : decode cX1_tellComing 30 = .ok (.iload_n 1, 1) := by decide +kernel
theorem dX1_tellComing_31 : decode cX1_tellComing 31 = .ok (.iload_n 2, 1) := by decide +kernel
theorem dX1_tellComing_32 : decode cX1_tellComing 32 = .ok (.invokevirtual 100, 3) := by decide +kernel
theorem dX1_tellComing_35 : decode cX1_tellComing 35 = .ok (.pop, 1) := by decide +kernel
theorem dX1_tellComing_36 : decode cX1_tellComing 36 = .ok (.iconst 1, 1) := by decide +kernel
theorem dX1_tellComing_37 : decode cX1_tellComing 37 = .ok (.ireturn, 1) := by decide +kernel
set_option maxRecDepth 20000 in
theorem ggX1_tellHeading_X0_has : GoodIn wsX1_tellHeading wsX0_has := goodIn_r _ [6, 7, 30, 31, 32, 33, 34, 35, 36, 37] (by decide +kernel) (by decide +kernel)
set_option maxRecDepth 20000 in
theorem gX1_tellHeading_X0_has : GoodIn wsX1_tellHeading (wsV RX1 66 RX0 yX0_has wsX0_has) := goodIn_app (goodIn_of _ (by decide +kernel)) ggX1_tellHeading_X0_has
set_option maxRecDepth 20000 in
theorem ggX1_tellHeading_X1_isWay : GoodIn wsX1_tellHeading wsX1_isWay := goodIn_r _ [11] (by decide +kernel) (by decide +kernel)
set_option maxRecDepth 20000 in
theorem gX1_tellHeading_X1_isWay : GoodIn wsX1_tellHeading (va_wsS RX1 93 yX1_isWay wsX1_isWay) := goodIn_app (goodIn_of _ (by decide +kernel)) ggX1_tellHeading_X1_isWay
set_option maxRecDepth 20000 in
theorem ggX1_tellHeading_X0_putHeading : GoodIn wsX1_tellHeading wsX0_putHeading := goodIn_r _ [15, 16, 17, 3, 4, 5, 6, 7, 30, 31, 32, 33, 34, 35, 36, 37] (by decide +kernel) (by decide +kernel)
set_option maxRecDepth 20000 in
theorem gX1_tellHeading_X0_putHeading : GoodIn wsX1_tellHeading (wsV RX1 106 RX0 yX0_putHeading wsX0_putHeading) := goodIn_app (goodIn_of _ (by decide +kernel)) ggX1_tellHeading_X0_putHeading
theorem dX1_tellHeading_0 : decode cX1_tellHeading 0 = .ok (.aload_n 0, 1) := by decide +kernel
theorem dX1_tellHeading_1 : decode cX1_tellHeading 1 = .ok (.getfield 16, 3) := by decide +kernel
theorem dX1_tellHeading_4 : decode cX1_tellHeading 4 = .ok (.iload_n 1, 1) := by decide +kernel
theorem dX1_tellHeading_5 : decode cX1_tellHeading 5 = .ok (.invokevirtual 66, 3) := by decide +kernel
theorem dX1_tellHeading_8 : decode cX1_tellHeading 8 = .ok (.ifCond .eq 10, 3) := by decide +kernel
theorem dX1_tellHeading_11 : decode cX1_tellHeading 11 = .ok (.iload_n 2, 1) := by decide +kernel
theorem dX1_tellHeading_12 : decode cX1_tellHeading 12 = .ok (.invokestatic 93, 3) := by decide +kernel
theorem dX1_tellHeading_15 : decode cX1_tellHeading 15 = .ok (.ifCond .ne 5, 3) := by decide +kernel
theorem dX1_tellHeading_18 : decode cX1_tellHeading 18 = .ok (.iconst 0, 1) := by decide +kernel
theorem dX1_tellHeading_19 : decode cX1_tellHeading 19 = .ok (.ireturn, 1) := by decide +kernel
theorem dX1_tellHeading_20 : decode cX1_tellHeading 20 = .ok (.aload_n 0, 1) := by decide +kernel
theorem dX1_tellHeading_21 : decode cX1_tellHeading 21 = .ok (.getfield 16, 3) := by decide +kernel
theorem dX1_tellHeading_24 : decode cX1_tellHeading 24 = .ok (.iload_n 1, 1) := by decide +kernel
theorem dX1_tellHeading_25 : decode cX1_tellHeading 25 = .ok (.iload_n 2, 1) := by decide +kernel
theorem dX1_tellHeading_26 : decode cX1_tellHeading 26 = .ok (.invokevirtual 106, 3) := by decide +kernel
theorem dX1_tellHeading_29 : decode cX1_tellHeading 29 = .ok (.iconst 1, 1) := by decide +kernel
theorem dX1_tellHeading_30 : decode cX1_tellHeading 30 = .ok (.ireturn, 1) := by decide +kernel
set_option maxRecDepth 20000 in
theorem ggX1_tellPlace_X0_has : GoodIn wsX1_tellPlace wsX0_has := goodIn_r _ [6, 7, 30, 31, 32, 33, 34, 35, 36, 37] (by decide +kernel) (by decide +kernel)
set_option maxRecDepth 20000 in
theorem gX1_tellPlace_X0_has : GoodIn wsX1_tellPlace (wsV RX1 66 RX0 yX0_has wsX0_has) := goodIn_app (goodIn_of _ (by decide +kernel)) ggX1_tellPlace_X0_has
set_option maxRecDepth 20000 in
theorem ggX1_tellPlace_X1_isNode : GoodIn wsX1_tellPlace wsX1_isNode := goodIn_r _ [11] (by decide +kernel) (by decide +kernel)
set_option maxRecDepth 20000 in
theorem gX1_tellPlace_X1_isNode : GoodIn wsX1_tellPlace (va_wsS RX1 53 yX1_isNode wsX1_isNode) := goodIn_app (goodIn_of _ (by decide +kernel)) ggX1_tellPlace_X1_isNode
set_option maxRecDepth 20000 in
theorem ggX1_tellPlace_X0_putPlace : GoodIn wsX1_tellPlace wsX0_putPlace := goodIn_r _ [15, 16, 17, 3, 4, 5, 6, 7, 30, 31, 32, 33, 34, 35, 36, 37] (by decide +kernel) (by decide +kernel)
set_option maxRecDepth 20000 in
theorem gX1_tellPlace_X0_putPlace : GoodIn wsX1_tellPlace (wsV RX1 112 RX0 yX0_putPlace wsX0_putPlace) := goodIn_app (goodIn_of _ (by decide +kernel)) ggX1_tellPlace_X0_putPlace
theorem dX1_tellPlace_0 : decode cX1_tellPlace 0 = .ok (.aload_n 0, 1) := by decide +kernel
theorem dX1_tellPlace_1 : decode cX1_tellPlace 1 = .ok (.getfield 16, 3) := by decide +kernel
theorem dX1_tellPlace_4 : decode cX1_tellPlace 4 = .ok (.iload_n 1, 1) := by decide +kernel
theorem dX1_tellPlace_5 : decode cX1_tellPlace 5 = .ok (.invokevirtual 66, 3) := by decide +kernel
theorem dX1_tellPlace_8 : decode cX1_tellPlace 8 = .ok (.ifCond .eq 10, 3) := by decide +kernel
theorem dX1_tellPlace_11 : decode cX1_tellPlace 11 = .ok (.iload_n 2, 1) := by decide +kernel
theorem dX1_tellPlace_12 : decode cX1_tellPlace 12 = .ok (.invokestatic 53, 3) := by decide +kernel
theorem dX1_tellPlace_15 : decode cX1_tellPlace 15 = .ok (.ifCond .ne 5, 3) := by decide +kernel
theorem dX1_tellPlace_18 : decode cX1_tellPlace 18 = .ok (.iconst 0, 1) := by decide +kernel
theorem dX1_tellPlace_19 : decode cX1_tellPlace 19 = .ok (.ireturn, 1) := by decide +kernel
theorem dX1_tellPlace_20 : decode cX1_tellPlace 20 = .ok (.aload_n 0, 1) := by decide +kernel
theorem dX1_tellPlace_21 : decode cX1_tellPlace 21 = .ok (.getfield 16, 3) := by decide +kernel
theorem dX1_tellPlace_24 : decode cX1_tellPlace 24 = .ok (.iload_n 1, 1) := by decide +kernel
theorem dX1_tellPlace_25 : decode cX1_tellPlace 25 = .ok (.iload_n 2, 1) := by decide +kernel
theorem dX1_tellPlace_26 : decode cX1_tellPlace 26 = .ok (.invokevirtual 112, 3) := by decide +kernel
theorem dX1_tellPlace_29 : decode cX1_tellPlace 29 = .ok (.iconst 1, 1) := by decide +kernel
theorem dX1_tellPlace_30 : decode cX1_tellPlace 30 = .ok (.ireturn, 1) := by decide +kernel
set_option maxRecDepth 20000 in
theorem ggX1_tellSteps_X1_outside : GoodIn wsX1_tellSteps wsX1_outside := goodIn_r _ [5] (by decide +kernel) (by decide +kernel)
set_option maxRecDepth 20000 in
theorem gX1_tellSteps_X1_outside : GoodIn wsX1_tellSteps (va_wsS RX1 79 yX1_outside wsX1_outside) := goodIn_app (goodIn_of _ (by decide +kernel)) ggX1_tellSteps_X1_outside
set_option maxRecDepth 20000 in
theorem ggX1_tellSteps_X0_stepCount : GoodIn wsX1_tellSteps wsX0_stepCount := goodIn_r _ [10, 11, 54, 55, 56, 57, 58, 59, 60, 61] (by decide +kernel) (by decide +kernel)
set_option maxRecDepth 20000 in
theorem gX1_tellSteps_X0_stepCount : GoodIn wsX1_tellSteps (wsV RX1 115 RX0 yX0_stepCount wsX0_stepCount) := goodIn_app (goodIn_of _ (by decide +kernel)) ggX1_tellSteps_X0_stepCount
set_option maxRecDepth 20000 in
theorem ggX1_tellSteps_X0_goOn : GoodIn wsX1_tellSteps wsX0_goOn := goodIn_r _ [15, 11, 16, 17, 18, 19, 9, 20, 21, 22, 23, 24, 25, 26, 27, 28, 29, 30, 31, 32, 33, 34, 35, 4, 36, 37, 38, 39, 40, 41, 54, 55, 56, 57, 58, 59, 60, 61] (by decide +kernel) (by decide +kernel)
set_option maxRecDepth 20000 in
theorem gX1_tellSteps_X0_goOn : GoodIn wsX1_tellSteps (wsV RX1 118 RX0 yX0_goOn wsX0_goOn) := goodIn_app (goodIn_of _ (by decide +kernel)) ggX1_tellSteps_X0_goOn
theorem dX1_tellSteps_0 : decode cX1_tellSteps 0 = .ok (.iload_n 1, 1) := by decide +kernel
theorem dX1_tellSteps_1 : decode cX1_tellSteps 1 = .ok (.iconst 1, 1) := by decide +kernel
theorem dX1_tellSteps_2 : decode cX1_tellSteps 2 = .ok (.bipush 60, 2) := by decide +kernel
theorem dX1_tellSteps_4 : decode cX1_tellSteps 4 = .ok (.invokestatic 79, 3) := by decide +kernel
theorem dX1_tellSteps_7 : decode cX1_tellSteps 7 = .ok (.ifCond .ne 18, 3) := by decide +kernel
theorem dX1_tellSteps_10 : decode cX1_tellSteps 10 = .ok (.aload_n 0, 1) := by decide +kernel
theorem dX1_tellSteps_11 : decode cX1_tellSteps 11 = .ok (.getfield 16, 3) := by decide +kernel
theorem dX1_tellSteps_14 : decode cX1_tellSteps 14 = .ok (.invokevirtual 115, 3) := by decide +kernel
theorem dX1_tellSteps_17 : decode cX1_tellSteps 17 = .ok (.iload_n 1, 1) := by decide +kernel
theorem dX1_tellSteps_18 : decode cX1_tellSteps 18 = .ok (.iadd, 1) := by decide +kernel
theorem dX1_tellSteps_19 : decode cX1_tellSteps 19 = .ok (.sipush 999, 3) := by decide +kernel
theorem dX1_tellSteps_22 : decode cX1_tellSteps 22 = .ok (.if_icmp .le 5, 3) := by decide +kernel
theorem dX1_tellSteps_25 : decode cX1_tellSteps 25 = .ok (.iconst 0, 1) := by decide +kernel
theorem dX1_tellSteps_26 : decode cX1_tellSteps 26 = .ok (.ireturn, 1) := by decide +kernel
theorem dX1_tellSteps_27 : decode cX1_tellSteps 27 = .ok (.aload_n 0, 1) := by decide +kernel
theorem dX1_tellSteps_28 : decode cX1_tellSteps 28 = .ok (.getfield 16, 3) := by decide +kernel
theorem dX1_tellSteps_31 : decode cX1_tellSteps 31 = .ok (.iload_n 1, 1) := by decide +kernel
theorem dX1_tellSteps_32 : decode cX1_tellSteps 32 = .ok (.iconst 0, 1) := by decide +kernel
theorem dX1_tellSteps_33 : decode cX1_tellSteps 33 = .ok (.invokevirtual 118, 3) := by decide +kernel
theorem dX1_tellSteps_36 : decode cX1_tellSteps 36 = .ok (.iconst 1, 1) := by decide +kernel
theorem dX1_tellSteps_37 : decode cX1_tellSteps 37 = .ok (.ireturn, 1) := by decide +kernel
set_option maxRecDepth 20000 in
theorem ggX1_leastCost_J7_fill_53178 : GoodIn wsX1_leastCost wsJ7_fill_53178 := goodIn_r _ [6] (by decide +kernel) (by decide +kernel)
set_option maxRecDepth 20000 in
theorem gX1_leastCost_J7_fill_53178 : GoodIn wsX1_leastCost (va_wsS RX1 292 yJ7_fill_53178 wsJ7_fill_53178) := goodIn_app (goodIn_of _ (by decide +kernel)) ggX1_leastCost_J7_fill_53178
set_option maxRecDepth 20000 in
theorem ggX1_leastCost_X1_putCost : GoodIn wsX1_leastCost wsX1_putCost := goodIn_r _ [11, 1, 31, 32, 33, 34, 35, 36, 37, 38, 39, 40, 41, 42] (by decide +kernel) (by decide +kernel)
set_option maxRecDepth 20000 in
theorem gX1_leastCost_X1_putCost : GoodIn wsX1_leastCost (wsV RX1 298 RX1 yX1_putCost wsX1_putCost) := goodIn_app (goodIn_of _ (by decide +kernel)) ggX1_leastCost_X1_putCost
set_option maxRecDepth 20000 in
theorem ggX1_leastCost_X0_wetOf : GoodIn wsX1_leastCost wsX0_wetOf := goodIn_r _ [16, 17, 18, 10, 19, 43, 44, 45, 46, 47, 48, 49, 50] (by decide +kernel) (by decide +kernel)
set_option maxRecDepth 20000 in
theorem gX1_leastCost_X0_wetOf : GoodIn wsX1_leastCost (wsV RX1 63 RX0 yX0_wetOf wsX0_wetOf) := goodIn_app (goodIn_of _ (by decide +kernel)) ggX1_leastCost_X0_wetOf
set_option maxRecDepth 20000 in
theorem ggX1_leastCost_X1_costOf : GoodIn wsX1_leastCost wsX1_costOf := goodIn_r _ [23, 1, 31, 32, 33, 34, 35, 36, 37, 38, 39, 40, 41, 42] (by decide +kernel) (by decide +kernel)
set_option maxRecDepth 20000 in
theorem gX1_leastCost_X1_costOf : GoodIn wsX1_leastCost (wsV RX1 301 RX1 yX1_costOf wsX1_costOf) := goodIn_app (goodIn_of _ (by decide +kernel)) ggX1_leastCost_X1_costOf
set_option maxRecDepth 20000 in
theorem ggX1_leastCost_X1_spread : GoodIn wsX1_leastCost wsX1_spread := goodIn_r _ [27, 28, 29, 10, 30, 20, 21, 22, 23, 1, 7, 8, 9, 11, 31, 32, 33, 34, 35, 36, 37, 38, 39, 40, 41, 42] (by decide +kernel) (by decide +kernel)
set_option maxRecDepth 20000 in
theorem gX1_leastCost_X1_spread : GoodIn wsX1_leastCost (wsV RX1 304 RX1 yX1_spread wsX1_spread) := goodIn_app (goodIn_of _ (by decide +kernel)) ggX1_leastCost_X1_spread
theorem dX1_leastCost_0 : decode cX1_leastCost 0 = .ok (.aload_n 0, 1) := by decide +kernel
theorem dX1_leastCost_1 : decode cX1_leastCost 1 = .ok (.getfield 32, 3) := by decide +kernel
theorem dX1_leastCost_4 : decode cX1_leastCost 4 = .ok (.sipush 1000, 3) := by decide +kernel
theorem dX1_leastCost_7 : decode cX1_leastCost 7 = .ok (.invokestatic 292, 3) := by decide +kernel
theorem dX1_leastCost_10 : decode cX1_leastCost 10 = .ok (.aload_n 0, 1) := by decide +kernel
theorem dX1_leastCost_11 : decode cX1_leastCost 11 = .ok (.iload_n 1, 1) := by decide +kernel
theorem dX1_leastCost_12 : decode cX1_leastCost 12 = .ok (.iconst 0, 1) := by decide +kernel
theorem dX1_leastCost_13 : decode cX1_leastCost 13 = .ok (.invokevirtual 298, 3) := by decide +kernel
theorem dX1_leastCost_16 : decode cX1_leastCost 16 = .ok (.iconst 1, 1) := by decide +kernel
theorem dX1_leastCost_17 : decode cX1_leastCost 17 = .ok (.istore 5, 2) := by decide +kernel
theorem dX1_leastCost_19 : decode cX1_leastCost 19 = .ok (.iconst 0, 1) := by decide +kernel
theorem dX1_leastCost_20 : decode cX1_leastCost 20 = .ok (.istore 6, 2) := by decide +kernel
theorem dX1_leastCost_22 : decode cX1_leastCost 22 = .ok (.iload 6, 2) := by decide +kernel
theorem dX1_leastCost_24 : decode cX1_leastCost 24 = .ok (.bipush 30, 2) := by decide +kernel
theorem dX1_leastCost_26 : decode cX1_leastCost 26 = .ok (.if_icmp .ge 86, 3) := by decide +kernel
theorem dX1_leastCost_29 : decode cX1_leastCost 29 = .ok (.iload 5, 2) := by decide +kernel
theorem dX1_leastCost_31 : decode cX1_leastCost 31 = .ok (.ifCond .eq 81, 3) := by decide +kernel
theorem dX1_leastCost_34 : decode cX1_leastCost 34 = .ok (.iconst 0, 1) := by decide +kernel
theorem dX1_leastCost_35 : decode cX1_leastCost 35 = .ok (.istore 5, 2) := by decide +kernel
theorem dX1_leastCost_37 : decode cX1_leastCost 37 = .ok (.iconst 0, 1) := by decide +kernel
theorem dX1_leastCost_38 : decode cX1_leastCost 38 = .ok (.istore 7, 2) := by decide +kernel
theorem dX1_leastCost_40 : decode cX1_leastCost 40 = .ok (.iload 7, 2) := by decide +kernel
theorem dX1_leastCost_42 : decode cX1_leastCost 42 = .ok (.bipush 30, 2) := by decide +kernel
theorem dX1_leastCost_44 : decode cX1_leastCost 44 = .ok (.if_icmp .ge 62, 3) := by decide +kernel
theorem dX1_leastCost_47 : decode cX1_leastCost 47 = .ok (.aload_n 0, 1) := by decide +kernel
theorem dX1_leastCost_48 : decode cX1_leastCost 48 = .ok (.getfield 10, 3) := by decide +kernel
theorem dX1_leastCost_51 : decode cX1_leastCost 51 = .ok (.iload 7, 2) := by decide +kernel
theorem dX1_leastCost_53 : decode cX1_leastCost 53 = .ok (.invokevirtual 63, 3) := by decide +kernel
theorem dX1_leastCost_56 : decode cX1_leastCost 56 = .ok (.ifCond .le 7, 3) := by decide +kernel
theorem dX1_leastCost_59 : decode cX1_leastCost 59 = .ok (.iload_n 3, 1) := by decide +kernel
theorem dX1_leastCost_60 : decode cX1_leastCost 60 = .ok (.goto 5, 3) := by decide +kernel
theorem dX1_leastCost_63 : decode cX1_leastCost 63 = .ok (.iload 4, 2) := by decide +kernel
theorem dX1_leastCost_65 : decode cX1_leastCost 65 = .ok (.istore 8, 2) := by decide +kernel
theorem dX1_leastCost_67 : decode cX1_leastCost 67 = .ok (.aload_n 0, 1) := by decide +kernel
theorem dX1_leastCost_68 : decode cX1_leastCost 68 = .ok (.iload 7, 2) := by decide +kernel
theorem dX1_leastCost_70 : decode cX1_leastCost 70 = .ok (.invokevirtual 301, 3) := by decide +kernel
theorem dX1_leastCost_73 : decode cX1_leastCost 73 = .ok (.sipush 1000, 3) := by decide +kernel
theorem dX1_leastCost_76 : decode cX1_leastCost 76 = .ok (.if_icmp .ge 24, 3) := by decide +kernel
theorem dX1_leastCost_79 : decode cX1_leastCost 79 = .ok (.aload_n 0, 1) := by decide +kernel
theorem dX1_leastCost_80 : decode cX1_leastCost 80 = .ok (.iload 7, 2) := by decide +kernel
theorem dX1_leastCost_82 : decode cX1_leastCost 82 = .ok (.aload_n 0, 1) := by decide +kernel
theorem dX1_leastCost_83 : decode cX1_leastCost 83 = .ok (.iload 7, 2) := by decide +kernel
theorem dX1_leastCost_85 : decode cX1_leastCost 85 = .ok (.invokevirtual 301, 3) := by decide +kernel
theorem dX1_leastCost_88 : decode cX1_leastCost 88 = .ok (.iload 8, 2) := by decide +kernel
theorem dX1_leastCost_90 : decode cX1_leastCost 90 = .ok (.iadd, 1) := by decide +kernel
theorem dX1_leastCost_91 : decode cX1_leastCost 91 = .ok (.invokevirtual 304, 3) := by decide +kernel
theorem dX1_leastCost_94 : decode cX1_leastCost 94 = .ok (.ifCond .eq 6, 3) := by decide +kernel
theorem dX1_leastCost_97 : decode cX1_leastCost 97 = .ok (.iconst 1, 1) := by decide +kernel
theorem dX1_leastCost_98 : decode cX1_leastCost 98 = .ok (.istore 5, 2) := by decide +kernel
theorem dX1_leastCost_100 : decode cX1_leastCost 100 = .ok (.iinc 7 1, 3) := by decide +kernel
theorem dX1_leastCost_103 : decode cX1_leastCost 103 = .ok (.goto (-63), 3) := by decide +kernel
theorem dX1_leastCost_106 : decode cX1_leastCost 106 = .ok (.iinc 6 1, 3) := by decide +kernel
theorem dX1_leastCost_109 : decode cX1_leastCost 109 = .ok (.goto (-87), 3) := by decide +kernel
theorem dX1_leastCost_112 : decode cX1_leastCost 112 = .ok (.aload_n 0, 1) := by decide +kernel
theorem dX1_leastCost_113 : decode cX1_leastCost 113 = .ok (.iload_n 2, 1) := by decide +kernel
theorem dX1_leastCost_114 : decode cX1_leastCost 114 = .ok (.invokevirtual 301, 3) := by decide +kernel
theorem dX1_leastCost_117 : decode cX1_leastCost 117 = .ok (.ireturn, 1) := by decide +kernel
set_option maxRecDepth 20000 in
theorem ggX1_spread_X1_nodeThatWay : GoodIn wsX1_spread wsX1_nodeThatWay := goodIn_r _ [4] (by decide +kernel) (by decide +kernel)
set_option maxRecDepth 20000 in
theorem gX1_spread_X1_nodeThatWay : GoodIn wsX1_spread (va_wsS RX1 307 yX1_nodeThatWay wsX1_nodeThatWay) := goodIn_app (goodIn_of _ (by decide +kernel)) ggX1_spread_X1_nodeThatWay
set_option maxRecDepth 20000 in
theorem ggX1_spread_X1_costOf : GoodIn wsX1_spread wsX1_costOf := goodIn_r _ [8, 9, 14, 15, 16, 17, 18, 19, 20, 21, 22, 23, 24, 25] (by decide +kernel) (by decide +kernel)
set_option maxRecDepth 20000 in
theorem gX1_spread_X1_costOf : GoodIn wsX1_spread (wsV RX1 301 RX1 yX1_costOf wsX1_costOf) := goodIn_app (goodIn_of _ (by decide +kernel)) ggX1_spread_X1_costOf
set_option maxRecDepth 20000 in
theorem ggX1_spread_X1_putCost : GoodIn wsX1_spread wsX1_putCost := goodIn_r _ [13, 9, 14, 15, 16, 17, 18, 19, 20, 21, 22, 23, 24, 25] (by decide +kernel) (by decide +kernel)
set_option maxRecDepth 20000 in
theorem gX1_spread_X1_putCost : GoodIn wsX1_spread (wsV RX1 298 RX1 yX1_putCost wsX1_putCost) := goodIn_app (goodIn_of _ (by decide +kernel)) ggX1_spread_X1_putCost
theorem dX1_spread_0 : decode cX1_spread 0 = .ok (.iconst 0, 1) := by decide +kernel
theorem dX1_spread_1 : decode cX1_spread 1 = .ok (.istore_n 3, 1) := by decide +kernel
theorem dX1_spread_2 : decode cX1_spread 2 = .ok (.iconst 0, 1) := by decide +kernel
theorem dX1_spread_3 : decode cX1_spread 3 = .ok (.istore 4, 2) := by decide +kernel
theorem dX1_spread_5 : decode cX1_spread 5 = .ok (.iload 4, 2) := by decide +kernel
theorem dX1_spread_7 : decode cX1_spread 7 = .ok (.iconst 4, 1) := by decide +kernel
theorem dX1_spread_8 : decode cX1_spread 8 = .ok (.if_icmp .ge 41, 3) := by decide +kernel
theorem dX1_spread_11 : decode cX1_spread 11 = .ok (.iload_n 1, 1) := by decide +kernel
theorem dX1_spread_12 : decode cX1_spread 12 = .ok (.iload 4, 2) := by decide +kernel
theorem dX1_spread_14 : decode cX1_spread 14 = .ok (.invokestatic 307, 3) := by decide +kernel
theorem dX1_spread_17 : decode cX1_spread 17 = .ok (.istore 5, 2) := by decide +kernel
theorem dX1_spread_19 : decode cX1_spread 19 = .ok (.iload 5, 2) := by decide +kernel
theorem dX1_spread_21 : decode cX1_spread 21 = .ok (.ifCond .lt 22, 3) := by decide +kernel
theorem dX1_spread_24 : decode cX1_spread 24 = .ok (.iload_n 2, 1) := by decide +kernel
theorem dX1_spread_25 : decode cX1_spread 25 = .ok (.aload_n 0, 1) := by decide +kernel
theorem dX1_spread_26 : decode cX1_spread 26 = .ok (.iload 5, 2) := by decide +kernel
theorem dX1_spread_28 : decode cX1_spread 28 = .ok (.invokevirtual 301, 3) := by decide +kernel
theorem dX1_spread_31 : decode cX1_spread 31 = .ok (.if_icmp .ge 12, 3) := by decide +kernel
theorem dX1_spread_34 : decode cX1_spread 34 = .ok (.aload_n 0, 1) := by decide +kernel
theorem dX1_spread_35 : decode cX1_spread 35 = .ok (.iload 5, 2) := by decide +kernel
theorem dX1_spread_37 : decode cX1_spread 37 = .ok (.iload_n 2, 1) := by decide +kernel
theorem dX1_spread_38 : decode cX1_spread 38 = .ok (.invokevirtual 298, 3) := by decide +kernel
theorem dX1_spread_41 : decode cX1_spread 41 = .ok (.iconst 1, 1) := by decide +kernel
theorem dX1_spread_42 : decode cX1_spread 42 = .ok (.istore_n 3, 1) := by decide +kernel
theorem dX1_spread_43 : decode cX1_spread 43 = .ok (.iinc 4 1, 3) := by decide +kernel
theorem dX1_spread_46 : decode cX1_spread 46 = .ok (.goto (-41), 3) := by decide +kernel
theorem dX1_spread_49 : decode cX1_spread 49 = .ok (.iload_n 3, 1) := by decide +kernel
theorem dX1_spread_50 : decode cX1_spread 50 = .ok (.ireturn, 1) := by decide +kernel
theorem dX1_costOf_0 : decode cX1_costOf 0 = .ok (.iload_n 1, 1) := by decide +kernel
theorem dX1_costOf_1 : decode cX1_costOf 1 = .ok (.ifCond .lt 21, 3) := by decide +kernel
theorem dX1_costOf_4 : decode cX1_costOf 4 = .ok (.iload_n 1, 1) := by decide +kernel
theorem dX1_costOf_5 : decode cX1_costOf 5 = .ok (.aload_n 0, 1) := by decide +kernel
theorem dX1_costOf_6 : decode cX1_costOf 6 = .ok (.getfield 32, 3) := by decide +kernel
theorem dX1_costOf_9 : decode cX1_costOf 9 = .ok (.arraylength, 1) := by decide +kernel
theorem dX1_costOf_10 : decode cX1_costOf 10 = .ok (.if_icmp .ge 12, 3) := by decide +kernel
theorem dX1_costOf_13 : decode cX1_costOf 13 = .ok (.aload_n 0, 1) := by decide +kernel
theorem dX1_costOf_14 : decode cX1_costOf 14 = .ok (.getfield 32, 3) := by decide +kernel
theorem dX1_costOf_17 : decode cX1_costOf 17 = .ok (.iload_n 1, 1) := by decide +kernel
theorem dX1_costOf_18 : decode cX1_costOf 18 = .ok (.iaload, 1) := by decide +kernel
theorem dX1_costOf_19 : decode cX1_costOf 19 = .ok (.goto 6, 3) := by decide +kernel
theorem dX1_costOf_22 : decode cX1_costOf 22 = .ok (.sipush 1000, 3) := by decide +kernel
theorem dX1_costOf_25 : decode cX1_costOf 25 = .ok (.ireturn, 1) := by decide +kernel
theorem dX1_putCost_0 : decode cX1_putCost 0 = .ok (.iload_n 1, 1) := by decide +kernel
theorem dX1_putCost_1 : decode cX1_putCost 1 = .ok (.ifCond .lt 19, 3) := by decide +kernel
theorem dX1_putCost_4 : decode cX1_putCost 4 = .ok (.iload_n 1, 1) := by decide +kernel
theorem dX1_putCost_5 : decode cX1_putCost 5 = .ok (.aload_n 0, 1) := by decide +kernel
theorem dX1_putCost_6 : decode cX1_putCost 6 = .ok (.getfield 32, 3) := by decide +kernel
theorem dX1_putCost_9 : decode cX1_putCost 9 = .ok (.arraylength, 1) := by decide +kernel
theorem dX1_putCost_10 : decode cX1_putCost 10 = .ok (.if_icmp .ge 10, 3) := by decide +kernel
theorem dX1_putCost_13 : decode cX1_putCost 13 = .ok (.aload_n 0, 1) := by decide +kernel
theorem dX1_putCost_14 : decode cX1_putCost 14 = .ok (.getfield 32, 3) := by decide +kernel
theorem dX1_putCost_17 : decode cX1_putCost 17 = .ok (.iload_n 1, 1) := by decide +kernel
theorem dX1_putCost_18 : decode cX1_putCost 18 = .ok (.iload_n 2, 1) := by decide +kernel
theorem dX1_putCost_19 : decode cX1_putCost 19 = .ok (.iastore, 1) := by decide +kernel
theorem dX1_putCost_20 : decode cX1_putCost 20 = .ok (.return_, 1) := by decide +kernel
theorem dX1_nodeThatWay_0 : decode cX1_nodeThatWay 0 = .ok (.iload_n 0, 1) := by decide +kernel
theorem dX1_nodeThatWay_1 : decode cX1_nodeThatWay 1 = .ok (.bipush 6, 2) := by decide +kernel
theorem dX1_nodeThatWay_3 : decode cX1_nodeThatWay 3 = .ok (.idiv, 1) := by decide +kernel
theorem dX1_nodeThatWay_4 : decode cX1_nodeThatWay 4 = .ok (.istore_n 2, 1) := by decide +kernel
theorem dX1_nodeThatWay_5 : decode cX1_nodeThatWay 5 = .ok (.iload_n 0, 1) := by decide +kernel
theorem dX1_nodeThatWay_6 : decode cX1_nodeThatWay 6 = .ok (.bipush 6, 2) := by decide +kernel
theorem dX1_nodeThatWay_8 : decode cX1_nodeThatWay 8 = .ok (.irem, 1) := by decide +kernel
theorem dX1_nodeThatWay_9 : decode cX1_nodeThatWay 9 = .ok (.istore_n 3, 1) := by decide +kernel
theorem dX1_nodeThatWay_10 : decode cX1_nodeThatWay 10 = .ok (.iload_n 1, 1) := by decide +kernel
theorem dX1_nodeThatWay_11 : decode cX1_nodeThatWay 11 = .ok (.tableswitch 65 0 2 #[25, 38, 51], 25) := by decide +kernel
theorem dX1_nodeThatWay_36 : decode cX1_nodeThatWay 36 = .ok (.iload_n 2, 1) := by decide +kernel
theorem dX1_nodeThatWay_37 : decode cX1_nodeThatWay 37 = .ok (.ifCond .le 10, 3) := by decide +kernel
theorem dX1_nodeThatWay_40 : decode cX1_nodeThatWay 40 = .ok (.iload_n 0, 1) := by decide +kernel
theorem dX1_nodeThatWay_41 : decode cX1_nodeThatWay 41 = .ok (.bipush 6, 2) := by decide +kernel
theorem dX1_nodeThatWay_43 : decode cX1_nodeThatWay 43 = .ok (.isub, 1) := by decide +kernel
theorem dX1_nodeThatWay_44 : decode cX1_nodeThatWay 44 = .ok (.goto 4, 3) := by decide +kernel
theorem dX1_nodeThatWay_47 : decode cX1_nodeThatWay 47 = .ok (.iconst (-1), 1) := by decide +kernel
theorem dX1_nodeThatWay_48 : decode cX1_nodeThatWay 48 = .ok (.ireturn, 1) := by decide +kernel
theorem dX1_nodeThatWay_49 : decode cX1_nodeThatWay 49 = .ok (.iload_n 3, 1) := by decide +kernel
theorem dX1_nodeThatWay_50 : decode cX1_nodeThatWay 50 = .ok (.iconst 5, 1) := by decide +kernel
theorem dX1_nodeThatWay_51 : decode cX1_nodeThatWay 51 = .ok (.if_icmp .ge 9, 3) := by decide +kernel
theorem dX1_nodeThatWay_54 : decode cX1_nodeThatWay 54 = .ok (.iload_n 0, 1) := by decide +kernel
theorem dX1_nodeThatWay_55 : decode cX1_nodeThatWay 55 = .ok (.iconst 1, 1) := by decide +kernel
theorem dX1_nodeThatWay_56 : decode cX1_nodeThatWay 56 = .ok (.iadd, 1) := by decide +kernel
theorem dX1_nodeThatWay_57 : decode cX1_nodeThatWay 57 = .ok (.goto 4, 3) := by decide +kernel
theorem dX1_nodeThatWay_60 : decode cX1_nodeThatWay 60 = .ok (.iconst (-1), 1) := by decide +kernel
theorem dX1_nodeThatWay_61 : decode cX1_nodeThatWay 61 = .ok (.ireturn, 1) := by decide +kernel
theorem dX1_nodeThatWay_62 : decode cX1_nodeThatWay 62 = .ok (.iload_n 2, 1) := by decide +kernel
theorem dX1_nodeThatWay_63 : decode cX1_nodeThatWay 63 = .ok (.iconst 4, 1) := by decide +kernel
theorem dX1_nodeThatWay_64 : decode cX1_nodeThatWay 64 = .ok (.if_icmp .ge 10, 3) := by decide +kernel
theorem dX1_nodeThatWay_67 : decode cX1_nodeThatWay 67 = .ok (.iload_n 0, 1) := by decide +kernel
theorem dX1_nodeThatWay_68 : decode cX1_nodeThatWay 68 = .ok (.bipush 6, 2) := by decide +kernel
theorem dX1_nodeThatWay_70 : decode cX1_nodeThatWay 70 = .ok (.iadd, 1) := by decide +kernel
theorem dX1_nodeThatWay_71 : decode cX1_nodeThatWay 71 = .ok (.goto 4, 3) := by decide +kernel
theorem dX1_nodeThatWay_74 : decode cX1_nodeThatWay 74 = .ok (.iconst (-1), 1) := by decide +kernel
theorem dX1_nodeThatWay_75 : decode cX1_nodeThatWay 75 = .ok (.ireturn, 1) := by decide +kernel
theorem dX1_nodeThatWay_76 : decode cX1_nodeThatWay 76 = .ok (.iload_n 3, 1) := by decide +kernel
theorem dX1_nodeThatWay_77 : decode cX1_nodeThatWay 77 = .ok (.ifCond .le 9, 3) := by decide +kernel
theorem dX1_nodeThatWay_80 : decode cX1_nodeThatWay 80 = .ok (.iload_n 0, 1) := by decide +kernel
theorem dX1_nodeThatWay_81 : decode cX1_nodeThatWay 81 = .ok (.iconst 1, 1) := by decide +kernel
theorem dX1_nodeThatWay_82 : decode cX1_nodeThatWay 82 = .ok (.isub, 1) := by decide +kernel
theorem dX1_nodeThatWay_83 : decode cX1_nodeThatWay 83 = .ok (.goto 4, 3) := by decide +kernel
theorem dX1_nodeThatWay_86 : decode cX1_nodeThatWay 86 = .ok (.iconst (-1), 1) := by decide +kernel
theorem dX1_nodeThatWay_87 : decode cX1_nodeThatWay 87 = .ok (.ireturn, 1) := by decide +kernel
set_option maxRecDepth 20000 in
theorem ggX1_reckonGains_X0_becomes : GoodIn wsX1_reckonGains wsX0_becomes := goodIn_r _ [7, 8, 9, 10, 11, 12, 13, 14, 15, 16, 17, 18, 19, 72, 73, 74, 75, 76, 77, 78, 79] (by decide +kernel) (by decide +kernel)
set_option maxRecDepth 20000 in
theorem gX1_reckonGains_X0_becomes : GoodIn wsX1_reckonGains (wsV RX1 124 RX0 yX0_becomes wsX0_becomes) := goodIn_app (goodIn_of _ (by decide +kernel)) ggX1_reckonGains_X0_becomes
set_option maxRecDepth 20000 in
theorem ggX1_reckonGains_X0_goOn : GoodIn wsX1_reckonGains wsX0_goOn := goodIn_r _ [23, 19, 18, 24, 25, 26, 6, 27, 15, 14, 8, 13, 16, 17, 28, 29, 30, 31, 32, 33, 34, 35, 36, 37, 38, 39, 40, 41, 42, 43, 72, 73, 74, 75, 76, 77, 78, 79] (by decide +kernel) (by decide +kernel)
set_option maxRecDepth 20000 in
theorem gX1_reckonGains_X0_goOn : GoodIn wsX1_reckonGains (wsV RX1 118 RX0 yX0_goOn wsX0_goOn) := goodIn_app (goodIn_of _ (by decide +kernel)) ggX1_reckonGains_X0_goOn
set_option maxRecDepth 20000 in
theorem ggX1_reckonGains_X0_placeOf : GoodIn wsX1_reckonGains wsX0_placeOf := goodIn_r _ [47, 15, 32, 33, 34, 6, 35, 18, 72, 73, 74, 75, 76, 77, 78, 79] (by decide +kernel) (by decide +kernel)
set_option maxRecDepth 20000 in
theorem gX1_reckonGains_X0_placeOf : GoodIn wsX1_reckonGains (wsV RX1 109 RX0 yX0_placeOf wsX0_placeOf) := goodIn_app (goodIn_of _ (by decide +kernel)) ggX1_reckonGains_X0_placeOf
set_option maxRecDepth 20000 in
theorem ggX1_reckonGains_J6_bitCount_0f7a4 : GoodIn wsX1_reckonGains wsJ6_bitCount_0f7a4 := goodIn_r _ [51, 52, 53, 54] (by decide +kernel) (by decide +kernel)
set_option maxRecDepth 20000 in
theorem gX1_reckonGains_J6_bitCount_0f7a4 : GoodIn wsX1_reckonGains (va_wsS RX1 145 yJ6_bitCount_0f7a4 wsJ6_bitCount_0f7a4) := goodIn_app (goodIn_of _ (by decide +kernel)) ggX1_reckonGains_J6_bitCount_0f7a4
set_option maxRecDepth 20000 in
theorem ggX1_reckonGains_X1_putGain : GoodIn wsX1_reckonGains wsX1_putGain := goodIn_r _ [58, 59, 60, 61, 62, 63, 64, 65, 66, 67, 68, 69, 70, 71] (by decide +kernel) (by decide +kernel)
set_option maxRecDepth 20000 in
theorem gX1_reckonGains_X1_putGain : GoodIn wsX1_reckonGains (wsV RX1 310 RX1 yX1_putGain wsX1_putGain) := goodIn_app (goodIn_of _ (by decide +kernel)) ggX1_reckonGains_X1_putGain
theorem dX1_reckonGains_0 : decode cX1_reckonGains 0 = .ok (.aload_n 0, 1) := by decide +kernel
theorem dX1_reckonGains_1 : decode cX1_reckonGains 1 = .ok (.getfield 16, 3) := by decide +kernel
theorem dX1_reckonGains_4 : decode cX1_reckonGains 4 = .ok (.aload_n 0, 1) := by decide +kernel
theorem dX1_reckonGains_5 : decode cX1_reckonGains 5 = .ok (.getfield 10, 3) := by decide +kernel
theorem dX1_reckonGains_8 : decode cX1_reckonGains 8 = .ok (.invokevirtual 124, 3) := by decide +kernel
theorem dX1_reckonGains_11 : decode cX1_reckonGains 11 = .ok (.iload_n 1, 1) := by decide +kernel
theorem dX1_reckonGains_12 : decode cX1_reckonGains 12 = .ok (.iconst 2, 1) := by decide +kernel
theorem dX1_reckonGains_13 : decode cX1_reckonGains 13 = .ok (.iand, 1) := by decide +kernel
theorem dX1_reckonGains_14 : decode cX1_reckonGains 14 = .ok (.ifCond .ne 9, 3) := by decide +kernel
theorem dX1_reckonGains_17 : decode cX1_reckonGains 17 = .ok (.iconst 1, 1) := by decide +kernel
theorem dX1_reckonGains_18 : decode cX1_reckonGains 18 = .ok (.iload_n 2, 1) := by decide +kernel
theorem dX1_reckonGains_19 : decode cX1_reckonGains 19 = .ok (.ishl, 1) := by decide +kernel
theorem dX1_reckonGains_20 : decode cX1_reckonGains 20 = .ok (.goto 4, 3) := by decide +kernel
theorem dX1_reckonGains_23 : decode cX1_reckonGains 23 = .ok (.iconst 0, 1) := by decide +kernel
theorem dX1_reckonGains_24 : decode cX1_reckonGains 24 = .ok (.iload_n 1, 1) := by decide +kernel
theorem dX1_reckonGains_25 : decode cX1_reckonGains 25 = .ok (.iconst 1, 1) := by decide +kernel
theorem dX1_reckonGains_26 : decode cX1_reckonGains 26 = .ok (.iand, 1) := by decide +kernel
theorem dX1_reckonGains_27 : decode cX1_reckonGains 27 = .ok (.ifCond .ne 9, 3) := by decide +kernel
theorem dX1_reckonGains_30 : decode cX1_reckonGains 30 = .ok (.iconst 1, 1) := by decide +kernel
theorem dX1_reckonGains_31 : decode cX1_reckonGains 31 = .ok (.iload_n 3, 1) := by decide +kernel
theorem dX1_reckonGains_32 : decode cX1_reckonGains 32 = .ok (.ishl, 1) := by decide +kernel
theorem dX1_reckonGains_33 : decode cX1_reckonGains 33 = .ok (.goto 4, 3) := by decide +kernel
theorem dX1_reckonGains_36 : decode cX1_reckonGains 36 = .ok (.iconst 0, 1) := by decide +kernel
theorem dX1_reckonGains_37 : decode cX1_reckonGains 37 = .ok (.ior, 1) := by decide +kernel
theorem dX1_reckonGains_38 : decode cX1_reckonGains 38 = .ok (.istore 5, 2) := by decide +kernel
theorem dX1_reckonGains_40 : decode cX1_reckonGains 40 = .ok (.iconst 0, 1) := by decide +kernel
theorem dX1_reckonGains_41 : decode cX1_reckonGains 41 = .ok (.istore 6, 2) := by decide +kernel
theorem dX1_reckonGains_43 : decode cX1_reckonGains 43 = .ok (.iconst 0, 1) := by decide +kernel
theorem dX1_reckonGains_44 : decode cX1_reckonGains 44 = .ok (.istore 7, 2) := by decide +kernel
theorem dX1_reckonGains_46 : decode cX1_reckonGains 46 = .ok (.iconst 0, 1) := by decide +kernel
theorem dX1_reckonGains_47 : decode cX1_reckonGains 47 = .ok (.istore 8, 2) := by decide +kernel
theorem dX1_reckonGains_49 : decode cX1_reckonGains 49 = .ok (.iconst 0, 1) := by decide +kernel
theorem dX1_reckonGains_50 : decode cX1_reckonGains 50 = .ok (.istore 9, 2) := by decide +kernel
theorem dX1_reckonGains_52 : decode cX1_reckonGains 52 = .ok (.iload 9, 2) := by decide +kernel
theorem dX1_reckonGains_54 : decode cX1_reckonGains 54 = .ok (.iload 4, 2) := by decide +kernel
theorem dX1_reckonGains_56 : decode cX1_reckonGains 56 = .ok (.if_icmp .gt 76, 3) := by decide +kernel
theorem dX1_reckonGains_59 : decode cX1_reckonGains 59 = .ok (.iload 9, 2) := by decide +kernel
theorem dX1_reckonGains_61 : decode cX1_reckonGains 61 = .ok (.ifCond .le 13, 3) := by decide +kernel
theorem dX1_reckonGains_64 : decode cX1_reckonGains 64 = .ok (.aload_n 0, 1) := by decide +kernel
theorem dX1_reckonGains_65 : decode cX1_reckonGains 65 = .ok (.getfield 16, 3) := by decide +kernel
theorem dX1_reckonGains_68 : decode cX1_reckonGains 68 = .ok (.iconst 1, 1) := by decide +kernel
theorem dX1_reckonGains_69 : decode cX1_reckonGains 69 = .ok (.iload 5, 2) := by decide +kernel
theorem dX1_reckonGains_71 : decode cX1_reckonGains 71 = .ok (.invokevirtual 118, 3) := by decide +kernel
theorem dX1_reckonGains_74 : decode cX1_reckonGains 74 = .ok (.iload 6, 2) := by decide +kernel
theorem dX1_reckonGains_76 : decode cX1_reckonGains 76 = .ok (.iconst 1, 1) := by decide +kernel
theorem dX1_reckonGains_77 : decode cX1_reckonGains 77 = .ok (.aload_n 0, 1) := by decide +kernel
theorem dX1_reckonGains_78 : decode cX1_reckonGains 78 = .ok (.getfield 16, 3) := by decide +kernel
theorem dX1_reckonGains_81 : decode cX1_reckonGains 81 = .ok (.iload_n 2, 1) := by decide +kernel
theorem dX1_reckonGains_82 : decode cX1_reckonGains 82 = .ok (.invokevirtual 109, 3) := by decide +kernel
theorem dX1_reckonGains_85 : decode cX1_reckonGains 85 = .ok (.ishl, 1) := by decide +kernel
theorem dX1_reckonGains_86 : decode cX1_reckonGains 86 = .ok (.ior, 1) := by decide +kernel
theorem dX1_reckonGains_87 : decode cX1_reckonGains 87 = .ok (.istore 6, 2) := by decide +kernel
theorem dX1_reckonGains_89 : decode cX1_reckonGains 89 = .ok (.iload 7, 2) := by decide +kernel
theorem dX1_reckonGains_91 : decode cX1_reckonGains 91 = .ok (.iconst 1, 1) := by decide +kernel
theorem dX1_reckonGains_92 : decode cX1_reckonGains 92 = .ok (.aload_n 0, 1) := by decide +kernel
theorem dX1_reckonGains_93 : decode cX1_reckonGains 93 = .ok (.getfield 16, 3) := by decide +kernel
theorem dX1_reckonGains_96 : decode cX1_reckonGains 96 = .ok (.iload_n 3, 1) := by decide +kernel
theorem dX1_reckonGains_97 : decode cX1_reckonGains 97 = .ok (.invokevirtual 109, 3) := by decide +kernel
theorem dX1_reckonGains_100 : decode cX1_reckonGains 100 = .ok (.ishl, 1) := by decide +kernel
theorem dX1_reckonGains_101 : decode cX1_reckonGains 101 = .ok (.ior, 1) := by decide +kernel
theorem dX1_reckonGains_102 : decode cX1_reckonGains 102 = .ok (.istore 7, 2) := by decide +kernel
theorem dX1_reckonGains_104 : decode cX1_reckonGains 104 = .ok (.aload_n 0, 1) := by decide +kernel
theorem dX1_reckonGains_105 : decode cX1_reckonGains 105 = .ok (.getfield 16, 3) := by decide +kernel
theorem dX1_reckonGains_108 : decode cX1_reckonGains 108 = .ok (.iload_n 2, 1) := by decide +kernel
theorem dX1_reckonGains_109 : decode cX1_reckonGains 109 = .ok (.invokevirtual 109, 3) := by decide +kernel
theorem dX1_reckonGains_112 : decode cX1_reckonGains 112 = .ok (.aload_n 0, 1) := by decide +kernel
theorem dX1_reckonGains_113 : decode cX1_reckonGains 113 = .ok (.getfield 16, 3) := by decide +kernel
theorem dX1_reckonGains_116 : decode cX1_reckonGains 116 = .ok (.iload_n 3, 1) := by decide +kernel
theorem dX1_reckonGains_117 : decode cX1_reckonGains 117 = .ok (.invokevirtual 109, 3) := by decide +kernel
theorem dX1_reckonGains_120 : decode cX1_reckonGains 120 = .ok (.if_icmp .ne 6, 3) := by decide +kernel
theorem dX1_reckonGains_123 : decode cX1_reckonGains 123 = .ok (.iconst 2, 1) := by decide +kernel
theorem dX1_reckonGains_124 : decode cX1_reckonGains 124 = .ok (.istore 8, 2) := by decide +kernel
theorem dX1_reckonGains_126 : decode cX1_reckonGains 126 = .ok (.iinc 9 1, 3) := by decide +kernel
theorem dX1_reckonGains_129 : decode cX1_reckonGains 129 = .ok (.goto (-77), 3) := by decide +kernel
theorem dX1_reckonGains_132 : decode cX1_reckonGains 132 = .ok (.aload_n 0, 1) := by decide +kernel
theorem dX1_reckonGains_133 : decode cX1_reckonGains 133 = .ok (.iload_n 1, 1) := by decide +kernel
theorem dX1_reckonGains_134 : decode cX1_reckonGains 134 = .ok (.iconst 0, 1) := by decide +kernel
theorem dX1_reckonGains_135 : decode cX1_reckonGains 135 = .ok (.iload 6, 2) := by decide +kernel
theorem dX1_reckonGains_137 : decode cX1_reckonGains 137 = .ok (.invokestatic 145, 3) := by decide +kernel
theorem dX1_reckonGains_140 : decode cX1_reckonGains 140 = .ok (.iload 8, 2) := by decide +kernel
theorem dX1_reckonGains_142 : decode cX1_reckonGains 142 = .ok (.iadd, 1) := by decide +kernel
theorem dX1_reckonGains_143 : decode cX1_reckonGains 143 = .ok (.invokevirtual 310, 3) := by decide +kernel
theorem dX1_reckonGains_146 : decode cX1_reckonGains 146 = .ok (.aload_n 0, 1) := by decide +kernel
theorem dX1_reckonGains_147 : decode cX1_reckonGains 147 = .ok (.iload_n 1, 1) := by decide +kernel
theorem dX1_reckonGains_148 : decode cX1_reckonGains 148 = .ok (.iconst 1, 1) := by decide +kernel
theorem dX1_reckonGains_149 : decode cX1_reckonGains 149 = .ok (.iload 7, 2) := by decide +kernel
theorem dX1_reckonGains_151 : decode cX1_reckonGains 151 = .ok (.invokestatic 145, 3) := by decide +kernel
theorem dX1_reckonGains_154 : decode cX1_reckonGains 154 = .ok (.iload 8, 2) := by decide +kernel
theorem dX1_reckonGains_156 : decode cX1_reckonGains 156 = .ok (.iadd, 1) := by decide +kernel
theorem dX1_reckonGains_157 : decode cX1_reckonGains 157 = .ok (.invokevirtual 310, 3) := by decide +kernel
theorem dX1_reckonGains_160 : decode cX1_reckonGains 160 = .ok (.return_, 1) := by decide +kernel
theorem dX1_gainOf_0 : decode cX1_gainOf 0 = .ok (.iconst 2, 1) := by decide +kernel
theorem dX1_gainOf_1 : decode cX1_gainOf 1 = .ok (.iload_n 1, 1) := by decide +kernel
theorem dX1_gainOf_2 : decode cX1_gainOf 2 = .ok (.imul, 1) := by decide +kernel
theorem dX1_gainOf_3 : decode cX1_gainOf 3 = .ok (.iload_n 2, 1) := by decide +kernel
theorem dX1_gainOf_4 : decode cX1_gainOf 4 = .ok (.iadd, 1) := by decide +kernel
theorem dX1_gainOf_5 : decode cX1_gainOf 5 = .ok (.istore_n 3, 1) := by decide +kernel
theorem dX1_gainOf_6 : decode cX1_gainOf 6 = .ok (.iload_n 3, 1) := by decide +kernel
theorem dX1_gainOf_7 : decode cX1_gainOf 7 = .ok (.ifCond .lt 21, 3) := by decide +kernel
theorem dX1_gainOf_10 : decode cX1_gainOf 10 = .ok (.iload_n 3, 1) := by decide +kernel
theorem dX1_gainOf_11 : decode cX1_gainOf 11 = .ok (.aload_n 0, 1) := by decide +kernel
theorem dX1_gainOf_12 : decode cX1_gainOf 12 = .ok (.getfield 35, 3) := by decide +kernel
theorem dX1_gainOf_15 : decode cX1_gainOf 15 = .ok (.arraylength, 1) := by decide +kernel
theorem dX1_gainOf_16 : decode cX1_gainOf 16 = .ok (.if_icmp .ge 12, 3) := by decide +kernel
theorem dX1_gainOf_19 : decode cX1_gainOf 19 = .ok (.aload_n 0, 1) := by decide +kernel
theorem dX1_gainOf_20 : decode cX1_gainOf 20 = .ok (.getfield 35, 3) := by decide +kernel
theorem dX1_gainOf_23 : decode cX1_gainOf 23 = .ok (.iload_n 3, 1) := by decide +kernel
theorem dX1_gainOf_24 : decode cX1_gainOf 24 = .ok (.iaload, 1) := by decide +kernel
theorem dX1_gainOf_25 : decode cX1_gainOf 25 = .ok (.goto 4, 3) := by decide +kernel
theorem dX1_gainOf_28 : decode cX1_gainOf 28 = .ok (.iconst 0, 1) := by decide +kernel
theorem dX1_gainOf_29 : decode cX1_gainOf 29 = .ok (.ireturn, 1) := by decide +kernel
theorem dX1_putGain_0 : decode cX1_putGain 0 = .ok (.iconst 2, 1) := by decide +kernel
theorem dX1_putGain_1 : decode cX1_putGain 1 = .ok (.iload_n 1, 1) := by decide +kernel
theorem dX1_putGain_2 : decode cX1_putGain 2 = .ok (.imul, 1) := by decide +kernel
theorem dX1_putGain_3 : decode cX1_putGain 3 = .ok (.iload_n 2, 1) := by decide +kernel
theorem dX1_putGain_4 : decode cX1_putGain 4 = .ok (.iadd, 1) := by decide +kernel
theorem dX1_putGain_5 : decode cX1_putGain 5 = .ok (.istore 4, 2) := by decide +kernel
theorem dX1_putGain_7 : decode cX1_putGain 7 = .ok (.iload 4, 2) := by decide +kernel
theorem dX1_putGain_9 : decode cX1_putGain 9 = .ok (.ifCond .lt 21, 3) := by decide +kernel
theorem dX1_putGain_12 : decode cX1_putGain 12 = .ok (.iload 4, 2) := by decide +kernel
theorem dX1_putGain_14 : decode cX1_putGain 14 = .ok (.aload_n 0, 1) := by decide +kernel
theorem dX1_putGain_15 : decode cX1_putGain 15 = .ok (.getfield 35, 3) := by decide +kernel
theorem dX1_putGain_18 : decode cX1_putGain 18 = .ok (.arraylength, 1) := by decide +kernel
theorem dX1_putGain_19 : decode cX1_putGain 19 = .ok (.if_icmp .ge 11, 3) := by decide +kernel
theorem dX1_putGain_22 : decode cX1_putGain 22 = .ok (.aload_n 0, 1) := by decide +kernel
theorem dX1_putGain_23 : decode cX1_putGain 23 = .ok (.getfield 35, 3) := by decide +kernel
theorem dX1_putGain_26 : decode cX1_putGain 26 = .ok (.iload 4, 2) := by decide +kernel
theorem dX1_putGain_28 : decode cX1_putGain 28 = .ok (.iload_n 3, 1) := by decide +kernel
theorem dX1_putGain_29 : decode cX1_putGain 29 = .ok (.iastore, 1) := by decide +kernel
theorem dX1_putGain_30 : decode cX1_putGain 30 = .ok (.return_, 1) := by decide +kernel
set_option maxRecDepth 20000 in
theorem ggX1_weightInSteam_X0_becomes : GoodIn wsX1_weightInSteam wsX0_becomes := goodIn_r _ [7, 8, 9, 10, 11, 12, 13, 14, 15, 16, 17, 18, 19, 56, 57, 58, 59, 60, 61, 62, 63] (by decide +kernel) (by decide +kernel)
set_option maxRecDepth 20000 in
theorem gX1_weightInSteam_X0_becomes : GoodIn wsX1_weightInSteam (wsV RX1 124 RX0 yX0_becomes wsX0_becomes) := goodIn_app (goodIn_of _ (by decide +kernel)) ggX1_weightInSteam_X0_becomes
set_option maxRecDepth 20000 in
theorem ggX1_weightInSteam_X0_goOn : GoodIn wsX1_weightInSteam wsX0_goOn := goodIn_r _ [23, 19, 18, 24, 25, 26, 6, 27, 15, 14, 8, 13, 16, 17, 28, 29, 30, 31, 32, 33, 34, 35, 36, 37, 38, 39, 40, 41, 42, 43, 56, 57, 58, 59, 60, 61, 62, 63] (by decide +kernel) (by decide +kernel)
set_option maxRecDepth 20000 in
theorem gX1_weightInSteam_X0_goOn : GoodIn wsX1_weightInSteam (wsV RX1 118 RX0 yX0_goOn wsX0_goOn) := goodIn_app (goodIn_of _ (by decide +kernel)) ggX1_weightInSteam_X0_goOn
theorem dX1_weightInSteam_0 : decode cX1_weightInSteam 0 = .ok (.aload_n 0, 1) := by decide +kernel
theorem dX1_weightInSteam_1 : decode cX1_weightInSteam 1 = .ok (.getfield 16, 3) := by decide +kernel
theorem dX1_weightInSteam_4 : decode cX1_weightInSteam 4 = .ok (.aload_n 0, 1) := by decide +kernel
theorem dX1_weightInSteam_5 : decode cX1_weightInSteam 5 = .ok (.getfield 10, 3) := by decide +kernel
theorem dX1_weightInSteam_8 : decode cX1_weightInSteam 8 = .ok (.invokevirtual 124, 3) := by decide +kernel
theorem dX1_weightInSteam_11 : decode cX1_weightInSteam 11 = .ok (.lconst 1, 1) := by decide +kernel
theorem dX1_weightInSteam_12 : decode cX1_weightInSteam 12 = .ok (.lstore 4, 2) := by decide +kernel
theorem dX1_weightInSteam_14 : decode cX1_weightInSteam 14 = .ok (.iconst 0, 1) := by decide +kernel
theorem dX1_weightInSteam_15 : decode cX1_weightInSteam 15 = .ok (.istore 6, 2) := by decide +kernel
theorem dX1_weightInSteam_17 : decode cX1_weightInSteam 17 = .ok (.iload 6, 2) := by decide +kernel
theorem dX1_weightInSteam_19 : decode cX1_weightInSteam 19 = .ok (.iload_n 1, 1) := by decide +kernel
theorem dX1_weightInSteam_20 : decode cX1_weightInSteam 20 = .ok (.if_icmp .ge 59, 3) := by decide +kernel
theorem dX1_weightInSteam_23 : decode cX1_weightInSteam 23 = .ok (.iload_n 3, 1) := by decide +kernel
theorem dX1_weightInSteam_24 : decode cX1_weightInSteam 24 = .ok (.iload 6, 2) := by decide +kernel
theorem dX1_weightInSteam_26 : decode cX1_weightInSteam 26 = .ok (.ishr, 1) := by decide +kernel
theorem dX1_weightInSteam_27 : decode cX1_weightInSteam 27 = .ok (.iconst 1, 1) := by decide +kernel
theorem dX1_weightInSteam_28 : decode cX1_weightInSteam 28 = .ok (.iand, 1) := by decide +kernel
theorem dX1_weightInSteam_29 : decode cX1_weightInSteam 29 = .ok (.iconst 1, 1) := by decide +kernel
theorem dX1_weightInSteam_30 : decode cX1_weightInSteam 30 = .ok (.if_icmp .ne 7, 3) := by decide +kernel
theorem dX1_weightInSteam_33 : decode cX1_weightInSteam 33 = .ok (.iconst 1, 1) := by decide +kernel
theorem dX1_weightInSteam_34 : decode cX1_weightInSteam 34 = .ok (.goto 4, 3) := by decide +kernel
theorem dX1_weightInSteam_37 : decode cX1_weightInSteam 37 = .ok (.iconst 0, 1) := by decide +kernel
theorem dX1_weightInSteam_38 : decode cX1_weightInSteam 38 = .ok (.istore 7, 2) := by decide +kernel
theorem dX1_weightInSteam_40 : decode cX1_weightInSteam 40 = .ok (.aload_n 0, 1) := by decide +kernel
theorem dX1_weightInSteam_41 : decode cX1_weightInSteam 41 = .ok (.getfield 16, 3) := by decide +kernel
theorem dX1_weightInSteam_44 : decode cX1_weightInSteam 44 = .ok (.iconst 1, 1) := by decide +kernel
theorem dX1_weightInSteam_45 : decode cX1_weightInSteam 45 = .ok (.iload 7, 2) := by decide +kernel
theorem dX1_weightInSteam_47 : decode cX1_weightInSteam 47 = .ok (.ifCond .eq 8, 3) := by decide +kernel
theorem dX1_weightInSteam_50 : decode cX1_weightInSteam 50 = .ok (.bipush 15, 2) := by decide +kernel
theorem dX1_weightInSteam_52 : decode cX1_weightInSteam 52 = .ok (.goto 4, 3) := by decide +kernel
theorem dX1_weightInSteam_55 : decode cX1_weightInSteam 55 = .ok (.iconst 0, 1) := by decide +kernel
theorem dX1_weightInSteam_56 : decode cX1_weightInSteam 56 = .ok (.invokevirtual 118, 3) := by decide +kernel
theorem dX1_weightInSteam_59 : decode cX1_weightInSteam 59 = .ok (.iload 7, 2) := by decide +kernel
theorem dX1_weightInSteam_61 : decode cX1_weightInSteam 61 = .ok (.ifCond .ne 12, 3) := by decide +kernel
theorem dX1_weightInSteam_64 : decode cX1_weightInSteam 64 = .ok (.lload 4, 2) := by decide +kernel
theorem dX1_weightInSteam_66 : decode cX1_weightInSteam 66 = .ok (.iload_n 2, 1) := by decide +kernel
theorem dX1_weightInSteam_67 : decode cX1_weightInSteam 67 = .ok (.iconst 1, 1) := by decide +kernel
theorem dX1_weightInSteam_68 : decode cX1_weightInSteam 68 = .ok (.isub, 1) := by decide +kernel
theorem dX1_weightInSteam_69 : decode cX1_weightInSteam 69 = .ok (.i2l, 1) := by decide +kernel
theorem dX1_weightInSteam_70 : decode cX1_weightInSteam 70 = .ok (.lmul, 1) := by decide +kernel
theorem dX1_weightInSteam_71 : decode cX1_weightInSteam 71 = .ok (.lstore 4, 2) := by decide +kernel
theorem dX1_weightInSteam_73 : decode cX1_weightInSteam 73 = .ok (.iinc 6 1, 3) := by decide +kernel
theorem dX1_weightInSteam_76 : decode cX1_weightInSteam 76 = .ok (.goto (-59), 3) := by decide +kernel
theorem dX1_weightInSteam_79 : decode cX1_weightInSteam 79 = .ok (.lload 4, 2) := by decide +kernel
theorem dX1_weightInSteam_81 : decode cX1_weightInSteam 81 = .ok (.lreturn, 1) := by decide +kernel
set_option maxRecDepth 20000 in
theorem ggX1_partOf_X1_commonDivisor : GoodIn wsX1_partOf wsX1_commonDivisor := goodIn_r _ [4] (by decide +kernel) (by decide +kernel)
set_option maxRecDepth 20000 in
theorem gX1_partOf_X1_commonDivisor : GoodIn wsX1_partOf (va_wsS RX1 314 yX1_commonDivisor wsX1_commonDivisor) := goodIn_app (goodIn_of _ (by decide +kernel)) ggX1_partOf_X1_commonDivisor
theorem dX1_partOf_0 : decode cX1_partOf 0 = .ok (.lload_n 0, 1) := by decide +kernel
theorem dX1_partOf_1 : decode cX1_partOf 1 = .ok (.lload_n 2, 1) := by decide +kernel
theorem dX1_partOf_2 : decode cX1_partOf 2 = .ok (.invokestatic 314, 3) := by decide +kernel
theorem dX1_partOf_5 : decode cX1_partOf 5 = .ok (.lstore 5, 2) := by decide +kernel
theorem dX1_partOf_7 : decode cX1_partOf 7 = .ok (.lload 5, 2) := by decide +kernel
theorem dX1_partOf_9 : decode cX1_partOf 9 = .ok (.lconst 0, 1) := by decide +kernel
theorem dX1_partOf_10 : decode cX1_partOf 10 = .ok (.lcmp, 1) := by decide +kernel
theorem dX1_partOf_11 : decode cX1_partOf 11 = .ok (.ifCond .ne 5, 3) := by decide +kernel
theorem dX1_partOf_14 : decode cX1_partOf 14 = .ok (.lconst 0, 1) := by decide +kernel
theorem dX1_partOf_15 : decode cX1_partOf 15 = .ok (.lreturn, 1) := by decide +kernel
theorem dX1_partOf_16 : decode cX1_partOf 16 = .ok (.iload 4, 2) := by decide +kernel
theorem dX1_partOf_18 : decode cX1_partOf 18 = .ok (.ifCond .ne 10, 3) := by decide +kernel
theorem dX1_partOf_21 : decode cX1_partOf 21 = .ok (.lload_n 0, 1) := by decide +kernel
theorem dX1_partOf_22 : decode cX1_partOf 22 = .ok (.lload 5, 2) := by decide +kernel
theorem dX1_partOf_24 : decode cX1_partOf 24 = .ok (.ldiv, 1) := by decide +kernel
theorem dX1_partOf_25 : decode cX1_partOf 25 = .ok (.goto 7, 3) := by decide +kernel
theorem dX1_partOf_28 : decode cX1_partOf 28 = .ok (.lload_n 2, 1) := by decide +kernel
theorem dX1_partOf_29 : decode cX1_partOf 29 = .ok (.lload 5, 2) := by decide +kernel
theorem dX1_partOf_31 : decode cX1_partOf 31 = .ok (.ldiv, 1) := by decide +kernel
theorem dX1_partOf_32 : decode cX1_partOf 32 = .ok (.lreturn, 1) := by decide +kernel
theorem dX1_commonDivisor_0 : decode cX1_commonDivisor 0 = .ok (.lload_n 0, 1) := by decide +kernel
theorem dX1_commonDivisor_1 : decode cX1_commonDivisor 1 = .ok (.lstore 4, 2) := by decide +kernel
theorem dX1_commonDivisor_3 : decode cX1_commonDivisor 3 = .ok (.lload_n 2, 1) := by decide +kernel
theorem dX1_commonDivisor_4 : decode cX1_commonDivisor 4 = .ok (.lstore 6, 2) := by decide +kernel
theorem dX1_commonDivisor_6 : decode cX1_commonDivisor 6 = .ok (.iconst 0, 1) := by decide +kernel
theorem dX1_commonDivisor_7 : decode cX1_commonDivisor 7 = .ok (.istore 8, 2) := by decide +kernel
theorem dX1_commonDivisor_9 : decode cX1_commonDivisor 9 = .ok (.iload 8, 2) := by decide +kernel
theorem dX1_commonDivisor_11 : decode cX1_commonDivisor 11 = .ok (.sipush 200, 3) := by decide +kernel
theorem dX1_commonDivisor_14 : decode cX1_commonDivisor 14 = .ok (.if_icmp .ge 31, 3) := by decide +kernel
theorem dX1_commonDivisor_17 : decode cX1_commonDivisor 17 = .ok (.lload 6, 2) := by decide +kernel
theorem dX1_commonDivisor_19 : decode cX1_commonDivisor 19 = .ok (.lconst 0, 1) := by decide +kernel
theorem dX1_commonDivisor_20 : decode cX1_commonDivisor 20 = .ok (.lcmp, 1) := by decide +kernel
theorem dX1_commonDivisor_21 : decode cX1_commonDivisor 21 = .ok (.ifCond .eq 24, 3) := by decide +kernel
theorem dX1_commonDivisor_24 : decode cX1_commonDivisor 24 = .ok (.lload 4, 2) := by decide +kernel
theorem dX1_commonDivisor_26 : decode cX1_commonDivisor 26 = .ok (.lload 6, 2) := by decide +kernel
theorem dX1_commonDivisor_28 : decode cX1_commonDivisor 28 = .ok (.lrem, 1) := by decide +kernel
theorem dX1_commonDivisor_29 : decode cX1_commonDivisor 29 = .ok (.lstore 9, 2) := by decide +kernel
theorem dX1_commonDivisor_31 : decode cX1_commonDivisor 31 = .ok (.lload 6, 2) := by decide +kernel
theorem dX1_commonDivisor_33 : decode cX1_commonDivisor 33 = .ok (.lstore 4, 2) := by decide +kernel
theorem dX1_commonDivisor_35 : decode cX1_commonDivisor 35 = .ok (.lload 9, 2) := by decide +kernel
theorem dX1_commonDivisor_37 : decode cX1_commonDivisor 37 = .ok (.lstore 6, 2) := by decide +kernel
theorem dX1_commonDivisor_39 : decode cX1_commonDivisor 39 = .ok (.iinc 8 1, 3) := by decide +kernel
theorem dX1_commonDivisor_42 : decode cX1_commonDivisor 42 = .ok (.goto (-33), 3) := by decide +kernel
theorem dX1_commonDivisor_45 : decode cX1_commonDivisor 45 = .ok (.lload 4, 2) := by decide +kernel
theorem dX1_commonDivisor_47 : decode cX1_commonDivisor 47 = .ok (.lreturn, 1) := by decide +kernel
theorem dX1_toldAt_0 : decode cX1_toldAt 0 = .ok (.iload_n 1, 1) := by decide +kernel
theorem dX1_toldAt_1 : decode cX1_toldAt 1 = .ok (.ifCond .lt 29, 3) := by decide +kernel
theorem dX1_toldAt_4 : decode cX1_toldAt 4 = .ok (.iload_n 1, 1) := by decide +kernel
theorem dX1_toldAt_5 : decode cX1_toldAt 5 = .ok (.aload_n 0, 1) := by decide +kernel
theorem dX1_toldAt_6 : decode cX1_toldAt 6 = .ok (.getfield 192, 3) := by decide +kernel
theorem dX1_toldAt_9 : decode cX1_toldAt 9 = .ok (.if_icmp .ge 21, 3) := by decide +kernel
theorem dX1_toldAt_12 : decode cX1_toldAt 12 = .ok (.iload_n 1, 1) := by decide +kernel
theorem dX1_toldAt_13 : decode cX1_toldAt 13 = .ok (.aload_n 0, 1) := by decide +kernel
theorem dX1_toldAt_14 : decode cX1_toldAt 14 = .ok (.getfield 26, 3) := by decide +kernel
theorem dX1_toldAt_17 : decode cX1_toldAt 17 = .ok (.arraylength, 1) := by decide +kernel
theorem dX1_toldAt_18 : decode cX1_toldAt 18 = .ok (.if_icmp .ge 12, 3) := by decide +kernel
theorem dX1_toldAt_21 : decode cX1_toldAt 21 = .ok (.aload_n 0, 1) := by decide +kernel
theorem dX1_toldAt_22 : decode cX1_toldAt 22 = .ok (.getfield 26, 3) := by decide +kernel
theorem dX1_toldAt_25 : decode cX1_toldAt 25 = .ok (.iload_n 1, 1) := by decide +kernel
theorem dX1_toldAt_26 : decode cX1_toldAt 26 = .ok (.iaload, 1) := by decide +kernel
theorem dX1_toldAt_27 : decode cX1_toldAt 27 = .ok (.goto 5, 3) := by decide +kernel
theorem dX1_toldAt_30 : decode cX1_toldAt 30 = .ok (.bipush (-9), 2) := by decide +kernel
theorem dX1_toldAt_32 : decode cX1_toldAt 32 = .ok (.ireturn, 1) := by decide +kernel
set_option maxRecDepth 20000 in
theorem ggX1_isAsTold_X0_goOn : GoodIn wsX1_isAsTold wsX0_goOn := goodIn_r _ [7, 8, 9, 10, 11, 12, 6, 13, 14, 15, 16, 17, 18, 19, 20, 21, 22, 23, 24, 25, 26, 27, 28, 29, 30, 31, 32, 33, 34, 35, 57, 58, 59, 60, 61, 62, 63, 64] (by decide +kernel) (by decide +kernel)
set_option maxRecDepth 20000 in
theorem gX1_isAsTold_X0_goOn : GoodIn wsX1_isAsTold (wsV RX1 118 RX0 yX0_goOn wsX0_goOn) := goodIn_app (goodIn_of _ (by decide +kernel)) ggX1_isAsTold_X0_goOn
set_option maxRecDepth 20000 in
theorem ggX1_isAsTold_X0_placeOf : GoodIn wsX1_isAsTold wsX0_placeOf := goodIn_r _ [39, 14, 24, 25, 26, 6, 27, 9, 57, 58, 59, 60, 61, 62, 63, 64] (by decide +kernel) (by decide +kernel)
set_option maxRecDepth 20000 in
theorem gX1_isAsTold_X0_placeOf : GoodIn wsX1_isAsTold (wsV RX1 109 RX0 yX0_placeOf wsX0_placeOf) := goodIn_app (goodIn_of _ (by decide +kernel)) ggX1_isAsTold_X0_placeOf
set_option maxRecDepth 20000 in
theorem ggX1_isAsTold_X1_toldAt : GoodIn wsX1_isAsTold wsX1_toldAt := goodIn_r _ [43, 1, 44, 45, 46, 47, 48, 49, 50, 51, 52, 53, 54, 55, 56] (by decide +kernel) (by decide +kernel)
set_option maxRecDepth 20000 in
theorem gX1_isAsTold_X1_toldAt : GoodIn wsX1_isAsTold (wsV RX1 195 RX1 yX1_toldAt wsX1_toldAt) := goodIn_app (goodIn_of _ (by decide +kernel)) ggX1_isAsTold_X1_toldAt
theorem dX1_isAsTold_0 : decode cX1_isAsTold 0 = .ok (.iconst 0, 1) := by decide +kernel
theorem dX1_isAsTold_1 : decode cX1_isAsTold 1 = .ok (.istore_n 2, 1) := by decide +kernel
theorem dX1_isAsTold_2 : decode cX1_isAsTold 2 = .ok (.iload_n 2, 1) := by decide +kernel
theorem dX1_isAsTold_3 : decode cX1_isAsTold 3 = .ok (.aload_n 0, 1) := by decide +kernel
theorem dX1_isAsTold_4 : decode cX1_isAsTold 4 = .ok (.getfield 192, 3) := by decide +kernel
theorem dX1_isAsTold_7 : decode cX1_isAsTold 7 = .ok (.if_icmp .ge 40, 3) := by decide +kernel
theorem dX1_isAsTold_10 : decode cX1_isAsTold 10 = .ok (.iload_n 2, 1) := by decide +kernel
theorem dX1_isAsTold_11 : decode cX1_isAsTold 11 = .ok (.ifCond .le 12, 3) := by decide +kernel
theorem dX1_isAsTold_14 : decode cX1_isAsTold 14 = .ok (.aload_n 0, 1) := by decide +kernel
theorem dX1_isAsTold_15 : decode cX1_isAsTold 15 = .ok (.getfield 16, 3) := by decide +kernel
theorem dX1_isAsTold_18 : decode cX1_isAsTold 18 = .ok (.iconst 1, 1) := by decide +kernel
theorem dX1_isAsTold_19 : decode cX1_isAsTold 19 = .ok (.iconst 0, 1) := by decide +kernel
theorem dX1_isAsTold_20 : decode cX1_isAsTold 20 = .ok (.invokevirtual 118, 3) := by decide +kernel
theorem dX1_isAsTold_23 : decode cX1_isAsTold 23 = .ok (.aload_n 0, 1) := by decide +kernel
theorem dX1_isAsTold_24 : decode cX1_isAsTold 24 = .ok (.getfield 16, 3) := by decide +kernel
theorem dX1_isAsTold_27 : decode cX1_isAsTold 27 = .ok (.iload_n 1, 1) := by decide +kernel
theorem dX1_isAsTold_28 : decode cX1_isAsTold 28 = .ok (.invokevirtual 109, 3) := by decide +kernel
theorem dX1_isAsTold_31 : decode cX1_isAsTold 31 = .ok (.aload_n 0, 1) := by decide +kernel
theorem dX1_isAsTold_32 : decode cX1_isAsTold 32 = .ok (.iload_n 2, 1) := by decide +kernel
theorem dX1_isAsTold_33 : decode cX1_isAsTold 33 = .ok (.invokevirtual 195, 3) := by decide +kernel
theorem dX1_isAsTold_36 : decode cX1_isAsTold 36 = .ok (.if_icmp .eq 5, 3) := by decide +kernel
theorem dX1_isAsTold_39 : decode cX1_isAsTold 39 = .ok (.iconst 0, 1) := by decide +kernel
theorem dX1_isAsTold_40 : decode cX1_isAsTold 40 = .ok (.ireturn, 1) := by decide +kernel
theorem dX1_isAsTold_41 : decode cX1_isAsTold 41 = .ok (.iinc 2 1, 3) := by decide +kernel
theorem dX1_isAsTold_44 : decode cX1_isAsTold 44 = .ok (.goto (-42), 3) := by decide +kernel
theorem dX1_isAsTold_47 : decode cX1_isAsTold 47 = .ok (.iconst 1, 1) := by decide +kernel
theorem dX1_isAsTold_48 : decode cX1_isAsTold 48 = .ok (.ireturn, 1) := by decide +kernel
set_option maxRecDepth 20000 in
theorem ggX1_drawPeople_X0_peopleCount : GoodIn wsX1_drawPeople wsX0_peopleCount := goodIn_r _ [6, 7, 43, 44, 45, 46, 47, 48, 49, 50] (by decide +kernel) (by decide +kernel)
set_option maxRecDepth 20000 in
theorem gX1_drawPeople_X0_peopleCount : GoodIn wsX1_drawPeople (wsV RX1 214 RX0 yX0_peopleCount wsX0_peopleCount) := goodIn_app (goodIn_of _ (by decide +kernel)) ggX1_drawPeople_X0_peopleCount
set_option maxRecDepth 20000 in
theorem ggX1_drawPeople_X1_draw : GoodIn wsX1_drawPeople wsX1_draw := goodIn_r _ [12, 13, 14, 15, 16, 31, 32, 33, 34, 35, 36, 37, 38, 39, 40, 41, 42] (by decide +kernel) (by decide +kernel)
set_option maxRecDepth 20000 in
theorem gX1_drawPeople_X1_draw : GoodIn wsX1_drawPeople (wsV RX1 318 RX1 yX1_draw wsX1_draw) := goodIn_app (goodIn_of _ (by decide +kernel)) ggX1_drawPeople_X1_draw
set_option maxRecDepth 20000 in
theorem ggX1_drawPeople_X0_putPlace : GoodIn wsX1_drawPeople wsX0_putPlace := goodIn_r _ [20, 21, 22, 23, 24, 5, 25, 7, 43, 44, 45, 46, 47, 48, 49, 50] (by decide +kernel) (by decide +kernel)
set_option maxRecDepth 20000 in
theorem gX1_drawPeople_X0_putPlace : GoodIn wsX1_drawPeople (wsV RX1 112 RX0 yX0_putPlace wsX0_putPlace) := goodIn_app (goodIn_of _ (by decide +kernel)) ggX1_drawPeople_X0_putPlace
set_option maxRecDepth 20000 in
theorem ggX1_drawPeople_X0_putHeading : GoodIn wsX1_drawPeople wsX0_putHeading := goodIn_r _ [29, 30, 22, 23, 24, 5, 25, 7, 43, 44, 45, 46, 47, 48, 49, 50] (by decide +kernel) (by decide +kernel)
set_option maxRecDepth 20000 in
theorem gX1_drawPeople_X0_putHeading : GoodIn wsX1_drawPeople (wsV RX1 106 RX0 yX0_putHeading wsX0_putHeading) := goodIn_app (goodIn_of _ (by decide +kernel)) ggX1_drawPeople_X0_putHeading
theorem dX1_drawPeople_0 : decode cX1_drawPeople 0 = .ok (.iconst 0, 1) := by decide +kernel
theorem dX1_drawPeople_1 : decode cX1_drawPeople 1 = .ok (.istore_n 1, 1) := by decide +kernel
theorem dX1_drawPeople_2 : decode cX1_drawPeople 2 = .ok (.iload_n 1, 1) := by decide +kernel
theorem dX1_drawPeople_3 : decode cX1_drawPeople 3 = .ok (.aload_n 0, 1) := by decide +kernel
theorem dX1_drawPeople_4 : decode cX1_drawPeople 4 = .ok (.getfield 16, 3) := by decide +kernel
theorem dX1_drawPeople_7 : decode cX1_drawPeople 7 = .ok (.invokevirtual 214, 3) := by decide +kernel
theorem dX1_drawPeople_10 : decode cX1_drawPeople 10 = .ok (.if_icmp .ge 36, 3) := by decide +kernel
theorem dX1_drawPeople_13 : decode cX1_drawPeople 13 = .ok (.aload_n 0, 1) := by decide +kernel
theorem dX1_drawPeople_14 : decode cX1_drawPeople 14 = .ok (.getfield 16, 3) := by decide +kernel
theorem dX1_drawPeople_17 : decode cX1_drawPeople 17 = .ok (.iload_n 1, 1) := by decide +kernel
theorem dX1_drawPeople_18 : decode cX1_drawPeople 18 = .ok (.aload_n 0, 1) := by decide +kernel
theorem dX1_drawPeople_19 : decode cX1_drawPeople 19 = .ok (.bipush 30, 2) := by decide +kernel
theorem dX1_drawPeople_21 : decode cX1_drawPeople 21 = .ok (.invokevirtual 318, 3) := by decide +kernel
theorem dX1_drawPeople_24 : decode cX1_drawPeople 24 = .ok (.invokevirtual 112, 3) := by decide +kernel
theorem dX1_drawPeople_27 : decode cX1_drawPeople 27 = .ok (.aload_n 0, 1) := by decide +kernel
theorem dX1_drawPeople_28 : decode cX1_drawPeople 28 = .ok (.getfield 16, 3) := by decide +kernel
theorem dX1_drawPeople_31 : decode cX1_drawPeople 31 = .ok (.iload_n 1, 1) := by decide +kernel
theorem dX1_drawPeople_32 : decode cX1_drawPeople 32 = .ok (.aload_n 0, 1) := by decide +kernel
theorem dX1_drawPeople_33 : decode cX1_drawPeople 33 = .ok (.iconst 4, 1) := by decide +kernel
theorem dX1_drawPeople_34 : decode cX1_drawPeople 34 = .ok (.invokevirtual 318, 3) := by decide +kernel
theorem dX1_drawPeople_37 : decode cX1_drawPeople 37 = .ok (.invokevirtual 106, 3) := by decide +kernel
theorem dX1_drawPeople_40 : decode cX1_drawPeople 40 = .ok (.iinc 1 1, 3) := by decide +kernel
theorem dX1_drawPeople_43 : decode cX1_drawPeople 43 = .ok (.goto (-41), 3) := by decide +kernel
theorem dX1_drawPeople_46 : decode cX1_drawPeople 46 = .ok (.return_, 1) := by decide +kernel
theorem dX1_draw_0 : decode cX1_draw 0 = .ok (.aload_n 0, 1) := by decide +kernel
theorem dX1_draw_1 : decode cX1_draw 1 = .ok (.aload_n 0, 1) := by decide +kernel
theorem dX1_draw_2 : decode cX1_draw 2 = .ok (.getfield 198, 3) := by decide +kernel
theorem dX1_draw_5 : decode cX1_draw 5 = .ok (.ldc_w 321, 3) := by decide +kernel
theorem dX1_draw_8 : decode cX1_draw 8 = .ok (.imul, 1) := by decide +kernel
theorem dX1_draw_9 : decode cX1_draw 9 = .ok (.ldc_w 322, 3) := by decide +kernel
theorem dX1_draw_12 : decode cX1_draw 12 = .ok (.iadd, 1) := by decide +kernel
theorem dX1_draw_13 : decode cX1_draw 13 = .ok (.putfield 198, 3) := by decide +kernel
theorem dX1_draw_16 : decode cX1_draw 16 = .ok (.iload_n 1, 1) := by decide +kernel
theorem dX1_draw_17 : decode cX1_draw 17 = .ok (.ifCond .le 20, 3) := by decide +kernel
theorem dX1_draw_20 : decode cX1_draw 20 = .ok (.aload_n 0, 1) := by decide +kernel
theorem dX1_draw_21 : decode cX1_draw 21 = .ok (.getfield 198, 3) := by decide +kernel
theorem dX1_draw_24 : decode cX1_draw 24 = .ok (.ldc_w 323, 3) := by decide +kernel
theorem dX1_draw_27 : decode cX1_draw 27 = .ok (.iand, 1) := by decide +kernel
theorem dX1_draw_28 : decode cX1_draw 28 = .ok (.sipush 256, 3) := by decide +kernel
theorem dX1_draw_31 : decode cX1_draw 31 = .ok (.idiv, 1) := by decide +kernel
theorem dX1_draw_32 : decode cX1_draw 32 = .ok (.iload_n 1, 1) := by decide +kernel
theorem dX1_draw_33 : decode cX1_draw 33 = .ok (.irem, 1) := by decide +kernel
theorem dX1_draw_34 : decode cX1_draw 34 = .ok (.goto 4, 3) := by decide +kernel
theorem dX1_draw_37 : decode cX1_draw 37 = .ok (.iconst 0, 1) := by decide +kernel
theorem dX1_draw_38 : decode cX1_draw 38 = .ok (.ireturn, 1) := by decide +kernel
