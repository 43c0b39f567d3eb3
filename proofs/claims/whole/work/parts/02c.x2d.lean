theorem dX2_init_0 : decode cX2_init 0 = .ok (.aload_n 0, 1) := by decide +kernel
theorem dX2_init_1 : decode cX2_init 1 = .ok (.invokespecial 1, 3) := by decide +kernel
theorem dX2_init_4 : decode cX2_init 4 = .ok (.aload_n 0, 1) := by decide +kernel
theorem dX2_init_5 : decode cX2_init 5 = .ok (.bipush 105, 2) := by decide +kernel
theorem dX2_init_7 : decode cX2_init 7 = .ok (.newarray .int, 2) := by decide +kernel
theorem dX2_init_9 : decode cX2_init 9 = .ok (.putfield 9, 3) := by decide +kernel
theorem dX2_init_12 : decode cX2_init 12 = .ok (.aload_n 0, 1) := by decide +kernel
theorem dX2_init_13 : decode cX2_init 13 = .ok (.bipush 105, 2) := by decide +kernel
theorem dX2_init_15 : decode cX2_init 15 = .ok (.newarray .int, 2) := by decide +kernel
theorem dX2_init_17 : decode cX2_init 17 = .ok (.putfield 13, 3) := by decide +kernel
theorem dX2_init_20 : decode cX2_init 20 = .ok (.aload_n 0, 1) := by decide +kernel
theorem dX2_init_21 : decode cX2_init 21 = .ok (.bipush 105, 2) := by decide +kernel
theorem dX2_init_23 : decode cX2_init 23 = .ok (.newarray .int, 2) := by decide +kernel
theorem dX2_init_25 : decode cX2_init 25 = .ok (.putfield 16, 3) := by decide +kernel
theorem dX2_init_28 : decode cX2_init 28 = .ok (.aload_n 0, 1) := by decide +kernel
theorem dX2_init_29 : decode cX2_init 29 = .ok (.bipush 105, 2) := by decide +kernel
theorem dX2_init_31 : decode cX2_init 31 = .ok (.newarray .int, 2) := by decide +kernel
theorem dX2_init_33 : decode cX2_init 33 = .ok (.putfield 19, 3) := by decide +kernel
theorem dX2_init_36 : decode cX2_init 36 = .ok (.aload_n 0, 1) := by decide +kernel
theorem dX2_init_37 : decode cX2_init 37 = .ok (.bipush 96, 2) := by decide +kernel
theorem dX2_init_39 : decode cX2_init 39 = .ok (.newarray .int, 2) := by decide +kernel
theorem dX2_init_41 : decode cX2_init 41 = .ok (.putfield 22, 3) := by decide +kernel
theorem dX2_init_44 : decode cX2_init 44 = .ok (.aload_n 0, 1) := by decide +kernel
theorem dX2_init_45 : decode cX2_init 45 = .ok (.bipush 16, 2) := by decide +kernel
theorem dX2_init_47 : decode cX2_init 47 = .ok (.newarray .int, 2) := by decide +kernel
theorem dX2_init_49 : decode cX2_init 49 = .ok (.putfield 25, 3) := by decide +kernel
theorem dX2_init_52 : decode cX2_init 52 = .ok (.aload_n 0, 1) := by decide +kernel
theorem dX2_init_53 : decode cX2_init 53 = .ok (.bipush 7, 2) := by decide +kernel
theorem dX2_init_55 : decode cX2_init 55 = .ok (.newarray .int, 2) := by decide +kernel
theorem dX2_init_57 : decode cX2_init 57 = .ok (.putfield 28, 3) := by decide +kernel
theorem dX2_init_60 : decode cX2_init 60 = .ok (.aload_n 0, 1) := by decide +kernel
theorem dX2_init_61 : decode cX2_init 61 = .ok (.iconst 3, 1) := by decide +kernel
theorem dX2_init_62 : decode cX2_init 62 = .ok (.newarray .int, 2) := by decide +kernel
theorem dX2_init_64 : decode cX2_init 64 = .ok (.putfield 31, 3) := by decide +kernel
theorem dX2_init_67 : decode cX2_init 67 = .ok (.aload_n 0, 1) := by decide +kernel
theorem dX2_init_68 : decode cX2_init 68 = .ok (.bipush 30, 2) := by decide +kernel
theorem dX2_init_70 : decode cX2_init 70 = .ok (.newarray .int, 2) := by decide +kernel
theorem dX2_init_72 : decode cX2_init 72 = .ok (.putfield 34, 3) := by decide +kernel
theorem dX2_init_75 : decode cX2_init 75 = .ok (.iconst 0, 1) := by decide +kernel
theorem dX2_init_76 : decode cX2_init 76 = .ok (.istore_n 1, 1) := by decide +kernel
theorem dX2_init_77 : decode cX2_init 77 = .ok (.iload_n 1, 1) := by decide +kernel
theorem dX2_init_78 : decode cX2_init 78 = .ok (.bipush 30, 2) := by decide +kernel
theorem dX2_init_80 : decode cX2_init 80 = .ok (.if_icmp .ge 20, 3) := by decide +kernel
theorem dX2_init_83 : decode cX2_init 83 = .ok (.aload_n 0, 1) := by decide +kernel
theorem dX2_init_84 : decode cX2_init 84 = .ok (.getfield 9, 3) := by decide +kernel
theorem dX2_init_87 : decode cX2_init 87 = .ok (.bipush 63, 2) := by decide +kernel
theorem dX2_init_89 : decode cX2_init 89 = .ok (.iload_n 1, 1) := by decide +kernel
theorem dX2_init_90 : decode cX2_init 90 = .ok (.iadd, 1) := by decide +kernel
theorem dX2_init_91 : decode cX2_init 91 = .ok (.bipush 9, 2) := by decide +kernel
theorem dX2_init_93 : decode cX2_init 93 = .ok (.iastore, 1) := by decide +kernel
theorem dX2_init_94 : decode cX2_init 94 = .ok (.iinc 1 1, 3) := by decide +kernel
theorem dX2_init_97 : decode cX2_init 97 = .ok (.goto (-20), 3) := by decide +kernel
theorem dX2_init_100 : decode cX2_init 100 = .ok (.return_, 1) := by decide +kernel
theorem dX2_isIn_0 : decode cX2_isIn 0 = .ok (.iload_n 0, 1) := by decide +kernel
theorem dX2_isIn_1 : decode cX2_isIn 1 = .ok (.iload_n 1, 1) := by decide +kernel
theorem dX2_isIn_2 : decode cX2_isIn 2 = .ok (.if_icmp .lt 12, 3) := by decide +kernel
theorem dX2_isIn_5 : decode cX2_isIn 5 = .ok (.iload_n 0, 1) := by decide +kernel
theorem dX2_isIn_6 : decode cX2_isIn 6 = .ok (.iload_n 2, 1) := by decide +kernel
theorem dX2_isIn_7 : decode cX2_isIn 7 = .ok (.if_icmp .gt 7, 3) := by decide +kernel
theorem dX2_isIn_10 : decode cX2_isIn 10 = .ok (.iconst 1, 1) := by decide +kernel
theorem dX2_isIn_11 : decode cX2_isIn 11 = .ok (.goto 4, 3) := by decide +kernel
theorem dX2_isIn_14 : decode cX2_isIn 14 = .ok (.iconst 0, 1) := by decide +kernel
theorem dX2_isIn_15 : decode cX2_isIn 15 = .ok (.ireturn, 1) := by decide +kernel
theorem dX2_least_0 : decode cX2_least 0 = .ok (.iload_n 0, 1) := by decide +kernel
theorem dX2_least_1 : decode cX2_least 1 = .ok (.iload_n 1, 1) := by decide +kernel
theorem dX2_least_2 : decode cX2_least 2 = .ok (.if_icmp .ge 7, 3) := by decide +kernel
theorem dX2_least_5 : decode cX2_least 5 = .ok (.iload_n 0, 1) := by decide +kernel
theorem dX2_least_6 : decode cX2_least 6 = .ok (.goto 4, 3) := by decide +kernel
theorem dX2_least_9 : decode cX2_least 9 = .ok (.iload_n 1, 1) := by decide +kernel
theorem dX2_least_10 : decode cX2_least 10 = .ok (.ireturn, 1) := by decide +kernel
theorem dX2_apart_0 : decode cX2_apart 0 = .ok (.iload_n 0, 1) := by decide +kernel
theorem dX2_apart_1 : decode cX2_apart 1 = .ok (.iload_n 1, 1) := by decide +kernel
theorem dX2_apart_2 : decode cX2_apart 2 = .ok (.if_icmp .ge 9, 3) := by decide +kernel
theorem dX2_apart_5 : decode cX2_apart 5 = .ok (.iload_n 1, 1) := by decide +kernel
theorem dX2_apart_6 : decode cX2_apart 6 = .ok (.iload_n 0, 1) := by decide +kernel
theorem dX2_apart_7 : decode cX2_apart 7 = .ok (.isub, 1) := by decide +kernel
theorem dX2_apart_8 : decode cX2_apart 8 = .ok (.goto 6, 3) := by decide +kernel
theorem dX2_apart_11 : decode cX2_apart 11 = .ok (.iload_n 0, 1) := by decide +kernel
theorem dX2_apart_12 : decode cX2_apart 12 = .ok (.iload_n 1, 1) := by decide +kernel
theorem dX2_apart_13 : decode cX2_apart 13 = .ok (.isub, 1) := by decide +kernel
theorem dX2_apart_14 : decode cX2_apart 14 = .ok (.ireturn, 1) := by decide +kernel
theorem dX2_copies_0 : decode cX2_copies 0 = .ok (.iconst 0, 1) := by decide +kernel
theorem dX2_copies_1 : decode cX2_copies 1 = .ok (.istore_n 2, 1) := by decide +kernel
theorem dX2_copies_2 : decode cX2_copies 2 = .ok (.iload_n 2, 1) := by decide +kernel
theorem dX2_copies_3 : decode cX2_copies 3 = .ok (.bipush 105, 2) := by decide +kernel
theorem dX2_copies_5 : decode cX2_copies 5 = .ok (.if_icmp .ge 15, 3) := by decide +kernel
theorem dX2_copies_8 : decode cX2_copies 8 = .ok (.aload_n 1, 1) := by decide +kernel
theorem dX2_copies_9 : decode cX2_copies 9 = .ok (.iload_n 2, 1) := by decide +kernel
theorem dX2_copies_10 : decode cX2_copies 10 = .ok (.aload_n 0, 1) := by decide +kernel
theorem dX2_copies_11 : decode cX2_copies 11 = .ok (.iload_n 2, 1) := by decide +kernel
theorem dX2_copies_12 : decode cX2_copies 12 = .ok (.iaload, 1) := by decide +kernel
theorem dX2_copies_13 : decode cX2_copies 13 = .ok (.iastore, 1) := by decide +kernel
theorem dX2_copies_14 : decode cX2_copies 14 = .ok (.iinc 2 1, 3) := by decide +kernel
theorem dX2_copies_17 : decode cX2_copies 17 = .ok (.goto (-15), 3) := by decide +kernel
theorem dX2_copies_20 : decode cX2_copies 20 = .ok (.return_, 1) := by decide +kernel
theorem dX2_no_0 : decode cX2_no 0 = .ok (.aload_n 0, 1) := by decide +kernel
theorem dX2_no_1 : decode cX2_no 1 = .ok (.getfield 28, 3) := by decide +kernel
theorem dX2_no_4 : decode cX2_no 4 = .ok (.iload_n 1, 1) := by decide +kernel
theorem dX2_no_5 : decode cX2_no 5 = .ok (.ineg, 1) := by decide +kernel
theorem dX2_no_6 : decode cX2_no 6 = .ok (.dup2, 1) := by decide +kernel
theorem dX2_no_7 : decode cX2_no 7 = .ok (.iaload, 1) := by decide +kernel
theorem dX2_no_8 : decode cX2_no 8 = .ok (.iconst 1, 1) := by decide +kernel
theorem dX2_no_9 : decode cX2_no 9 = .ok (.iadd, 1) := by decide +kernel
theorem dX2_no_10 : decode cX2_no 10 = .ok (.iastore, 1) := by decide +kernel
theorem dX2_no_11 : decode cX2_no 11 = .ok (.iload_n 1, 1) := by decide +kernel
theorem dX2_no_12 : decode cX2_no 12 = .ok (.ireturn, 1) := by decide +kernel
set_option maxRecDepth 20000 in
theorem ggX2_noWide_X2_no : GoodIn wsX2_noWide wsX2_no := goodIn_r _ [6, 7, 8, 9, 10, 11, 12, 13, 14, 15, 16, 17, 18, 19, 20, 21] (by decide +kernel) (by decide +kernel)
set_option maxRecDepth 20000 in
theorem gX2_noWide_X2_no : GoodIn wsX2_noWide (wsV RX2 39 RX2 yX2_no wsX2_no) := goodIn_app (goodIn_of _ (by decide +kernel)) ggX2_noWide_X2_no
theorem dX2_noWide_0 : decode cX2_noWide 0 = .ok (.ldc2_w 37, 3) := by decide +kernel
theorem dX2_noWide_3 : decode cX2_noWide 3 = .ok (.aload_n 0, 1) := by decide +kernel
theorem dX2_noWide_4 : decode cX2_noWide 4 = .ok (.iload_n 1, 1) := by decide +kernel
theorem dX2_noWide_5 : decode cX2_noWide 5 = .ok (.invokevirtual 39, 3) := by decide +kernel
theorem dX2_noWide_8 : decode cX2_noWide 8 = .ok (.i2l, 1) := by decide +kernel
theorem dX2_noWide_9 : decode cX2_noWide 9 = .ok (.lsub, 1) := by decide +kernel
theorem dX2_noWide_10 : decode cX2_noWide 10 = .ok (.lreturn, 1) := by decide +kernel
theorem dX2_of_0 : decode cX2_of 0 = .ok (.bipush 93, 2) := by decide +kernel
theorem dX2_of_2 : decode cX2_of 2 = .ok (.iconst 3, 1) := by decide +kernel
theorem dX2_of_3 : decode cX2_of 3 = .ok (.iload_n 0, 1) := by decide +kernel
theorem dX2_of_4 : decode cX2_of 4 = .ok (.imul, 1) := by decide +kernel
theorem dX2_of_5 : decode cX2_of 5 = .ok (.iadd, 1) := by decide +kernel
theorem dX2_of_6 : decode cX2_of 6 = .ok (.iload_n 1, 1) := by decide +kernel
theorem dX2_of_7 : decode cX2_of 7 = .ok (.iadd, 1) := by decide +kernel
theorem dX2_of_8 : decode cX2_of 8 = .ok (.ireturn, 1) := by decide +kernel
set_option maxRecDepth 20000 in
theorem ggX2_isPerson_X2_isIn : GoodIn wsX2_isPerson wsX2_isIn := goodIn_r _ [5] (by decide +kernel) (by decide +kernel)
set_option maxRecDepth 20000 in
theorem gX2_isPerson_X2_isIn : GoodIn wsX2_isPerson (va_wsS RX2 43 yX2_isIn wsX2_isIn) := goodIn_app (goodIn_of _ (by decide +kernel)) ggX2_isPerson_X2_isIn
theorem dX2_isPerson_0 : decode cX2_isPerson 0 = .ok (.iload_n 1, 1) := by decide +kernel
theorem dX2_isPerson_1 : decode cX2_isPerson 1 = .ok (.iconst 0, 1) := by decide +kernel
theorem dX2_isPerson_2 : decode cX2_isPerson 2 = .ok (.aload_n 0, 1) := by decide +kernel
theorem dX2_isPerson_3 : decode cX2_isPerson 3 = .ok (.getfield 9, 3) := by decide +kernel
theorem dX2_isPerson_6 : decode cX2_isPerson 6 = .ok (.iconst 0, 1) := by decide +kernel
theorem dX2_isPerson_7 : decode cX2_isPerson 7 = .ok (.iaload, 1) := by decide +kernel
theorem dX2_isPerson_8 : decode cX2_isPerson 8 = .ok (.iconst 1, 1) := by decide +kernel
theorem dX2_isPerson_9 : decode cX2_isPerson 9 = .ok (.isub, 1) := by decide +kernel
theorem dX2_isPerson_10 : decode cX2_isPerson 10 = .ok (.invokestatic 43, 3) := by decide +kernel
theorem dX2_isPerson_13 : decode cX2_isPerson 13 = .ok (.ireturn, 1) := by decide +kernel
set_option maxRecDepth 20000 in
theorem ggX2_isNode_X2_isIn : GoodIn wsX2_isNode wsX2_isIn := goodIn_r _ [4] (by decide +kernel) (by decide +kernel)
set_option maxRecDepth 20000 in
theorem gX2_isNode_X2_isIn : GoodIn wsX2_isNode (va_wsS RX2 43 yX2_isIn wsX2_isIn) := goodIn_app (goodIn_of _ (by decide +kernel)) ggX2_isNode_X2_isIn
theorem dX2_isNode_0 : decode cX2_isNode 0 = .ok (.iload_n 0, 1) := by decide +kernel
theorem dX2_isNode_1 : decode cX2_isNode 1 = .ok (.iconst 0, 1) := by decide +kernel
theorem dX2_isNode_2 : decode cX2_isNode 2 = .ok (.bipush 29, 2) := by decide +kernel
theorem dX2_isNode_4 : decode cX2_isNode 4 = .ok (.invokestatic 43, 3) := by decide +kernel
theorem dX2_isNode_7 : decode cX2_isNode 7 = .ok (.ireturn, 1) := by decide +kernel
set_option maxRecDepth 20000 in
theorem ggX2_isWay_X2_isIn : GoodIn wsX2_isWay wsX2_isIn := goodIn_r _ [4] (by decide +kernel) (by decide +kernel)
set_option maxRecDepth 20000 in
theorem gX2_isWay_X2_isIn : GoodIn wsX2_isWay (va_wsS RX2 43 yX2_isIn wsX2_isIn) := goodIn_app (goodIn_of _ (by decide +kernel)) ggX2_isWay_X2_isIn
theorem dX2_isWay_0 : decode cX2_isWay 0 = .ok (.iload_n 0, 1) := by decide +kernel
theorem dX2_isWay_1 : decode cX2_isWay 1 = .ok (.iconst 0, 1) := by decide +kernel
theorem dX2_isWay_2 : decode cX2_isWay 2 = .ok (.iconst 3, 1) := by decide +kernel
theorem dX2_isWay_3 : decode cX2_isWay 3 = .ok (.invokestatic 43, 3) := by decide +kernel
theorem dX2_isWay_6 : decode cX2_isWay 6 = .ok (.ireturn, 1) := by decide +kernel
theorem dX2_has_0 : decode cX2_has 0 = .ok (.iload_n 0, 1) := by decide +kernel
theorem dX2_has_1 : decode cX2_has 1 = .ok (.iload_n 1, 1) := by decide +kernel
theorem dX2_has_2 : decode cX2_has 2 = .ok (.ishr, 1) := by decide +kernel
theorem dX2_has_3 : decode cX2_has 3 = .ok (.iconst 1, 1) := by decide +kernel
theorem dX2_has_4 : decode cX2_has 4 = .ok (.iand, 1) := by decide +kernel
theorem dX2_has_5 : decode cX2_has 5 = .ok (.iconst 1, 1) := by decide +kernel
theorem dX2_has_6 : decode cX2_has 6 = .ok (.if_icmp .ne 7, 3) := by decide +kernel
theorem dX2_has_9 : decode cX2_has 9 = .ok (.iconst 1, 1) := by decide +kernel
theorem dX2_has_10 : decode cX2_has 10 = .ok (.goto 4, 3) := by decide +kernel
theorem dX2_has_13 : decode cX2_has 13 = .ok (.iconst 0, 1) := by decide +kernel
theorem dX2_has_14 : decode cX2_has 14 = .ok (.ireturn, 1) := by decide +kernel
theorem dX2_bits_0 : decode cX2_bits 0 = .ok (.iconst 0, 1) := by decide +kernel
theorem dX2_bits_1 : decode cX2_bits 1 = .ok (.istore_n 1, 1) := by decide +kernel
theorem dX2_bits_2 : decode cX2_bits 2 = .ok (.iconst 0, 1) := by decide +kernel
theorem dX2_bits_3 : decode cX2_bits 3 = .ok (.istore_n 2, 1) := by decide +kernel
theorem dX2_bits_4 : decode cX2_bits 4 = .ok (.iload_n 2, 1) := by decide +kernel
theorem dX2_bits_5 : decode cX2_bits 5 = .ok (.bipush 30, 2) := by decide +kernel
theorem dX2_bits_7 : decode cX2_bits 7 = .ok (.if_icmp .ge 17, 3) := by decide +kernel
theorem dX2_bits_10 : decode cX2_bits 10 = .ok (.iload_n 1, 1) := by decide +kernel
theorem dX2_bits_11 : decode cX2_bits 11 = .ok (.iload_n 0, 1) := by decide +kernel
theorem dX2_bits_12 : decode cX2_bits 12 = .ok (.iload_n 2, 1) := by decide +kernel
theorem dX2_bits_13 : decode cX2_bits 13 = .ok (.ishr, 1) := by decide +kernel
theorem dX2_bits_14 : decode cX2_bits 14 = .ok (.iconst 1, 1) := by decide +kernel
theorem dX2_bits_15 : decode cX2_bits 15 = .ok (.iand, 1) := by decide +kernel
theorem dX2_bits_16 : decode cX2_bits 16 = .ok (.iadd, 1) := by decide +kernel
theorem dX2_bits_17 : decode cX2_bits 17 = .ok (.istore_n 1, 1) := by decide +kernel
theorem dX2_bits_18 : decode cX2_bits 18 = .ok (.iinc 2 1, 3) := by decide +kernel
theorem dX2_bits_21 : decode cX2_bits 21 = .ok (.goto (-17), 3) := by decide +kernel
theorem dX2_bits_24 : decode cX2_bits 24 = .ok (.iload_n 1, 1) := by decide +kernel
theorem dX2_bits_25 : decode cX2_bits 25 = .ok (.ireturn, 1) := by decide +kernel
theorem dX2_nodeThere_0 : decode cX2_nodeThere 0 = .ok (.iload_n 1, 1) := by decide +kernel
theorem dX2_nodeThere_1 : decode cX2_nodeThere 1 = .ok (.tableswitch 76 0 2 #[27, 43, 60], 27) := by decide +kernel
theorem dX2_nodeThere_28 : decode cX2_nodeThere 28 = .ok (.iload_n 0, 1) := by decide +kernel
theorem dX2_nodeThere_29 : decode cX2_nodeThere 29 = .ok (.bipush 6, 2) := by decide +kernel
theorem dX2_nodeThere_31 : decode cX2_nodeThere 31 = .ok (.if_icmp .ge 8, 3) := by decide +kernel
theorem dX2_nodeThere_34 : decode cX2_nodeThere 34 = .ok (.bipush (-9), 2) := by decide +kernel
theorem dX2_nodeThere_36 : decode cX2_nodeThere 36 = .ok (.goto 7, 3) := by decide +kernel
theorem dX2_nodeThere_39 : decode cX2_nodeThere 39 = .ok (.iload_n 0, 1) := by decide +kernel
theorem dX2_nodeThere_40 : decode cX2_nodeThere 40 = .ok (.bipush 6, 2) := by decide +kernel
theorem dX2_nodeThere_42 : decode cX2_nodeThere 42 = .ok (.isub, 1) := by decide +kernel
theorem dX2_nodeThere_43 : decode cX2_nodeThere 43 = .ok (.ireturn, 1) := by decide +kernel
theorem dX2_nodeThere_44 : decode cX2_nodeThere 44 = .ok (.iload_n 0, 1) := by decide +kernel
theorem dX2_nodeThere_45 : decode cX2_nodeThere 45 = .ok (.bipush 6, 2) := by decide +kernel
theorem dX2_nodeThere_47 : decode cX2_nodeThere 47 = .ok (.irem, 1) := by decide +kernel
theorem dX2_nodeThere_48 : decode cX2_nodeThere 48 = .ok (.iconst 5, 1) := by decide +kernel
theorem dX2_nodeThere_49 : decode cX2_nodeThere 49 = .ok (.if_icmp .ne 8, 3) := by decide +kernel
theorem dX2_nodeThere_52 : decode cX2_nodeThere 52 = .ok (.bipush (-9), 2) := by decide +kernel
theorem dX2_nodeThere_54 : decode cX2_nodeThere 54 = .ok (.goto 6, 3) := by decide +kernel
theorem dX2_nodeThere_57 : decode cX2_nodeThere 57 = .ok (.iload_n 0, 1) := by decide +kernel
theorem dX2_nodeThere_58 : decode cX2_nodeThere 58 = .ok (.iconst 1, 1) := by decide +kernel
theorem dX2_nodeThere_59 : decode cX2_nodeThere 59 = .ok (.iadd, 1) := by decide +kernel
theorem dX2_nodeThere_60 : decode cX2_nodeThere 60 = .ok (.ireturn, 1) := by decide +kernel
theorem dX2_nodeThere_61 : decode cX2_nodeThere 61 = .ok (.iload_n 0, 1) := by decide +kernel
theorem dX2_nodeThere_62 : decode cX2_nodeThere 62 = .ok (.bipush 24, 2) := by decide +kernel
theorem dX2_nodeThere_64 : decode cX2_nodeThere 64 = .ok (.if_icmp .lt 8, 3) := by decide +kernel
theorem dX2_nodeThere_67 : decode cX2_nodeThere 67 = .ok (.bipush (-9), 2) := by decide +kernel
theorem dX2_nodeThere_69 : decode cX2_nodeThere 69 = .ok (.goto 7, 3) := by decide +kernel
theorem dX2_nodeThere_72 : decode cX2_nodeThere 72 = .ok (.iload_n 0, 1) := by decide +kernel
theorem dX2_nodeThere_73 : decode cX2_nodeThere 73 = .ok (.bipush 6, 2) := by decide +kernel
theorem dX2_nodeThere_75 : decode cX2_nodeThere 75 = .ok (.iadd, 1) := by decide +kernel
theorem dX2_nodeThere_76 : decode cX2_nodeThere 76 = .ok (.ireturn, 1) := by decide +kernel
theorem dX2_nodeThere_77 : decode cX2_nodeThere 77 = .ok (.iload_n 0, 1) := by decide +kernel
theorem dX2_nodeThere_78 : decode cX2_nodeThere 78 = .ok (.bipush 6, 2) := by decide +kernel
theorem dX2_nodeThere_80 : decode cX2_nodeThere 80 = .ok (.irem, 1) := by decide +kernel
theorem dX2_nodeThere_81 : decode cX2_nodeThere 81 = .ok (.ifCond .ne 8, 3) := by decide +kernel
theorem dX2_nodeThere_84 : decode cX2_nodeThere 84 = .ok (.bipush (-9), 2) := by decide +kernel
theorem dX2_nodeThere_86 : decode cX2_nodeThere 86 = .ok (.goto 6, 3) := by decide +kernel
theorem dX2_nodeThere_89 : decode cX2_nodeThere 89 = .ok (.iload_n 0, 1) := by decide +kernel
theorem dX2_nodeThere_90 : decode cX2_nodeThere 90 = .ok (.iconst 1, 1) := by decide +kernel
theorem dX2_nodeThere_91 : decode cX2_nodeThere 91 = .ok (.isub, 1) := by decide +kernel
theorem dX2_nodeThere_92 : decode cX2_nodeThere 92 = .ok (.ireturn, 1) := by decide +kernel
theorem dX2_wayBy_0 : decode cX2_wayBy 0 = .ok (.iload_n 0, 1) := by decide +kernel
theorem dX2_wayBy_1 : decode cX2_wayBy 1 = .ok (.tableswitch 84 1 5 #[35, 41, 47, 61, 78], 35) := by decide +kernel
theorem dX2_wayBy_36 : decode cX2_wayBy 36 = .ok (.iload_n 2, 1) := by decide +kernel
theorem dX2_wayBy_37 : decode cX2_wayBy 37 = .ok (.iconst 3, 1) := by decide +kernel
theorem dX2_wayBy_38 : decode cX2_wayBy 38 = .ok (.iadd, 1) := by decide +kernel
theorem dX2_wayBy_39 : decode cX2_wayBy 39 = .ok (.iconst 4, 1) := by decide +kernel
theorem dX2_wayBy_40 : decode cX2_wayBy 40 = .ok (.irem, 1) := by decide +kernel
theorem dX2_wayBy_41 : decode cX2_wayBy 41 = .ok (.ireturn, 1) := by decide +kernel
theorem dX2_wayBy_42 : decode cX2_wayBy 42 = .ok (.iload_n 2, 1) := by decide +kernel
theorem dX2_wayBy_43 : decode cX2_wayBy 43 = .ok (.iconst 1, 1) := by decide +kernel
theorem dX2_wayBy_44 : decode cX2_wayBy 44 = .ok (.iadd, 1) := by decide +kernel
theorem dX2_wayBy_45 : decode cX2_wayBy 45 = .ok (.iconst 4, 1) := by decide +kernel
theorem dX2_wayBy_46 : decode cX2_wayBy 46 = .ok (.irem, 1) := by decide +kernel
theorem dX2_wayBy_47 : decode cX2_wayBy 47 = .ok (.ireturn, 1) := by decide +kernel
theorem dX2_wayBy_48 : decode cX2_wayBy 48 = .ok (.iload_n 3, 1) := by decide +kernel
theorem dX2_wayBy_49 : decode cX2_wayBy 49 = .ok (.iconst 4, 1) := by decide +kernel
theorem dX2_wayBy_50 : decode cX2_wayBy 50 = .ok (.irem, 1) := by decide +kernel
theorem dX2_wayBy_51 : decode cX2_wayBy 51 = .ok (.ifCond .ne 9, 3) := by decide +kernel
theorem dX2_wayBy_54 : decode cX2_wayBy 54 = .ok (.iload_n 1, 1) := by decide +kernel
theorem dX2_wayBy_55 : decode cX2_wayBy 55 = .ok (.iconst 4, 1) := by decide +kernel
theorem dX2_wayBy_56 : decode cX2_wayBy 56 = .ok (.irem, 1) := by decide +kernel
theorem dX2_wayBy_57 : decode cX2_wayBy 57 = .ok (.goto 4, 3) := by decide +kernel
theorem dX2_wayBy_60 : decode cX2_wayBy 60 = .ok (.iload_n 2, 1) := by decide +kernel
theorem dX2_wayBy_61 : decode cX2_wayBy 61 = .ok (.ireturn, 1) := by decide +kernel
theorem dX2_wayBy_62 : decode cX2_wayBy 62 = .ok (.iload_n 3, 1) := by decide +kernel
theorem dX2_wayBy_63 : decode cX2_wayBy 63 = .ok (.iconst 2, 1) := by decide +kernel
theorem dX2_wayBy_64 : decode cX2_wayBy 64 = .ok (.irem, 1) := by decide +kernel
theorem dX2_wayBy_65 : decode cX2_wayBy 65 = .ok (.iconst 1, 1) := by decide +kernel
theorem dX2_wayBy_66 : decode cX2_wayBy 66 = .ok (.if_icmp .ne 11, 3) := by decide +kernel
theorem dX2_wayBy_69 : decode cX2_wayBy 69 = .ok (.iload_n 2, 1) := by decide +kernel
theorem dX2_wayBy_70 : decode cX2_wayBy 70 = .ok (.iconst 3, 1) := by decide +kernel
theorem dX2_wayBy_71 : decode cX2_wayBy 71 = .ok (.iadd, 1) := by decide +kernel
theorem dX2_wayBy_72 : decode cX2_wayBy 72 = .ok (.iconst 4, 1) := by decide +kernel
theorem dX2_wayBy_73 : decode cX2_wayBy 73 = .ok (.irem, 1) := by decide +kernel
theorem dX2_wayBy_74 : decode cX2_wayBy 74 = .ok (.goto 4, 3) := by decide +kernel
theorem dX2_wayBy_77 : decode cX2_wayBy 77 = .ok (.iload_n 2, 1) := by decide +kernel
theorem dX2_wayBy_78 : decode cX2_wayBy 78 = .ok (.ireturn, 1) := by decide +kernel
theorem dX2_wayBy_79 : decode cX2_wayBy 79 = .ok (.iload_n 2, 1) := by decide +kernel
theorem dX2_wayBy_80 : decode cX2_wayBy 80 = .ok (.iconst 2, 1) := by decide +kernel
theorem dX2_wayBy_81 : decode cX2_wayBy 81 = .ok (.iadd, 1) := by decide +kernel
theorem dX2_wayBy_82 : decode cX2_wayBy 82 = .ok (.iconst 4, 1) := by decide +kernel
theorem dX2_wayBy_83 : decode cX2_wayBy 83 = .ok (.irem, 1) := by decide +kernel
theorem dX2_wayBy_84 : decode cX2_wayBy 84 = .ok (.ireturn, 1) := by decide +kernel
theorem dX2_wayBy_85 : decode cX2_wayBy 85 = .ok (.iload_n 2, 1) := by decide +kernel
theorem dX2_wayBy_86 : decode cX2_wayBy 86 = .ok (.ireturn, 1) := by decide +kernel
set_option maxRecDepth 20000 in
theorem ggX2_wayOf_X2_of : GoodIn wsX2_wayOf wsX2_of := goodIn_r _ [4] (by decide +kernel) (by decide +kernel)
set_option maxRecDepth 20000 in
theorem gX2_wayOf_X2_of : GoodIn wsX2_wayOf (va_wsS RX2 47 yX2_of wsX2_of) := goodIn_app (goodIn_of _ (by decide +kernel)) ggX2_wayOf_X2_of
set_option maxRecDepth 20000 in
theorem ggX2_wayOf_X2_wayBy : GoodIn wsX2_wayOf wsX2_wayBy := goodIn_r _ [7] (by decide +kernel) (by decide +kernel)
set_option maxRecDepth 20000 in
theorem gX2_wayOf_X2_wayBy : GoodIn wsX2_wayOf (va_wsS RX2 51 yX2_wayBy wsX2_wayBy) := goodIn_app (goodIn_of _ (by decide +kernel)) ggX2_wayOf_X2_wayBy
theorem dX2_wayOf_0 : decode cX2_wayOf 0 = .ok (.aload_n 0, 1) := by decide +kernel
theorem dX2_wayOf_1 : decode cX2_wayOf 1 = .ok (.iload_n 1, 1) := by decide +kernel
theorem dX2_wayOf_2 : decode cX2_wayOf 2 = .ok (.iconst 0, 1) := by decide +kernel
theorem dX2_wayOf_3 : decode cX2_wayOf 3 = .ok (.invokestatic 47, 3) := by decide +kernel
theorem dX2_wayOf_6 : decode cX2_wayOf 6 = .ok (.iaload, 1) := by decide +kernel
theorem dX2_wayOf_7 : decode cX2_wayOf 7 = .ok (.istore_n 3, 1) := by decide +kernel
theorem dX2_wayOf_8 : decode cX2_wayOf 8 = .ok (.aload_n 0, 1) := by decide +kernel
theorem dX2_wayOf_9 : decode cX2_wayOf 9 = .ok (.iconst 3, 1) := by decide +kernel
theorem dX2_wayOf_10 : decode cX2_wayOf 10 = .ok (.iload_n 3, 1) := by decide +kernel
theorem dX2_wayOf_11 : decode cX2_wayOf 11 = .ok (.iadd, 1) := by decide +kernel
theorem dX2_wayOf_12 : decode cX2_wayOf 12 = .ok (.iaload, 1) := by decide +kernel
theorem dX2_wayOf_13 : decode cX2_wayOf 13 = .ok (.aload_n 0, 1) := by decide +kernel
theorem dX2_wayOf_14 : decode cX2_wayOf 14 = .ok (.bipush 33, 2) := by decide +kernel
theorem dX2_wayOf_16 : decode cX2_wayOf 16 = .ok (.iload_n 3, 1) := by decide +kernel
theorem dX2_wayOf_17 : decode cX2_wayOf 17 = .ok (.iadd, 1) := by decide +kernel
theorem dX2_wayOf_18 : decode cX2_wayOf 18 = .ok (.iaload, 1) := by decide +kernel
theorem dX2_wayOf_19 : decode cX2_wayOf 19 = .ok (.aload_n 0, 1) := by decide +kernel
theorem dX2_wayOf_20 : decode cX2_wayOf 20 = .ok (.iload_n 1, 1) := by decide +kernel
theorem dX2_wayOf_21 : decode cX2_wayOf 21 = .ok (.iconst 1, 1) := by decide +kernel
theorem dX2_wayOf_22 : decode cX2_wayOf 22 = .ok (.invokestatic 47, 3) := by decide +kernel
theorem dX2_wayOf_25 : decode cX2_wayOf 25 = .ok (.iaload, 1) := by decide +kernel
theorem dX2_wayOf_26 : decode cX2_wayOf 26 = .ok (.iload_n 2, 1) := by decide +kernel
theorem dX2_wayOf_27 : decode cX2_wayOf 27 = .ok (.invokestatic 51, 3) := by decide +kernel
theorem dX2_wayOf_30 : decode cX2_wayOf 30 = .ok (.ireturn, 1) := by decide +kernel
theorem dX2_isDry_0 : decode cX2_isDry 0 = .ok (.aload_n 0, 1) := by decide +kernel
theorem dX2_isDry_1 : decode cX2_isDry 1 = .ok (.bipush 63, 2) := by decide +kernel
theorem dX2_isDry_3 : decode cX2_isDry 3 = .ok (.iload_n 1, 1) := by decide +kernel
theorem dX2_isDry_4 : decode cX2_isDry 4 = .ok (.iadd, 1) := by decide +kernel
theorem dX2_isDry_5 : decode cX2_isDry 5 = .ok (.iaload, 1) := by decide +kernel
theorem dX2_isDry_6 : decode cX2_isDry 6 = .ok (.ifCond .ne 7, 3) := by decide +kernel
theorem dX2_isDry_9 : decode cX2_isDry 9 = .ok (.iconst 1, 1) := by decide +kernel
theorem dX2_isDry_10 : decode cX2_isDry 10 = .ok (.goto 4, 3) := by decide +kernel
theorem dX2_isDry_13 : decode cX2_isDry 13 = .ok (.iconst 0, 1) := by decide +kernel
theorem dX2_isDry_14 : decode cX2_isDry 14 = .ok (.ireturn, 1) := by decide +kernel
set_option maxRecDepth 20000 in
theorem ggX2_goes_X2_of : GoodIn wsX2_goes wsX2_of := goodIn_r _ [4] (by decide +kernel) (by decide +kernel)
set_option maxRecDepth 20000 in
theorem gX2_goes_X2_of : GoodIn wsX2_goes (va_wsS RX2 47 yX2_of wsX2_of) := goodIn_app (goodIn_of _ (by decide +kernel)) ggX2_goes_X2_of
set_option maxRecDepth 20000 in
theorem ggX2_goes_X2_isDry : GoodIn wsX2_goes wsX2_isDry := goodIn_r _ [7] (by decide +kernel) (by decide +kernel)
set_option maxRecDepth 20000 in
theorem gX2_goes_X2_isDry : GoodIn wsX2_goes (va_wsS RX2 55 yX2_isDry wsX2_isDry) := goodIn_app (goodIn_of _ (by decide +kernel)) ggX2_goes_X2_isDry
set_option maxRecDepth 20000 in
theorem ggX2_goes_X2_wayOf : GoodIn wsX2_goes wsX2_wayOf := goodIn_r _ [10, 1, 2, 3, 4, 11, 12, 13] (by decide +kernel) (by decide +kernel)
set_option maxRecDepth 20000 in
theorem gX2_goes_X2_wayOf : GoodIn wsX2_goes (va_wsS RX2 59 yX2_wayOf wsX2_wayOf) := goodIn_app (goodIn_of _ (by decide +kernel)) ggX2_goes_X2_wayOf
set_option maxRecDepth 20000 in
theorem ggX2_goes_X2_nodeThere : GoodIn wsX2_goes wsX2_nodeThere := goodIn_r _ [16] (by decide +kernel) (by decide +kernel)
set_option maxRecDepth 20000 in
theorem gX2_goes_X2_nodeThere : GoodIn wsX2_goes (va_wsS RX2 63 yX2_nodeThere wsX2_nodeThere) := goodIn_app (goodIn_of _ (by decide +kernel)) ggX2_goes_X2_nodeThere
set_option maxRecDepth 20000 in
theorem ggX2_goes_X2_least : GoodIn wsX2_goes wsX2_least := goodIn_r _ [19] (by decide +kernel) (by decide +kernel)
set_option maxRecDepth 20000 in
theorem gX2_goes_X2_least : GoodIn wsX2_goes (va_wsS RX2 66 yX2_least wsX2_least) := goodIn_app (goodIn_of _ (by decide +kernel)) ggX2_goes_X2_least
theorem dX2_goes_0 : decode cX2_goes 0 = .ok (.aload_n 0, 1) := by decide +kernel
theorem dX2_goes_1 : decode cX2_goes 1 = .ok (.iload_n 1, 1) := by decide +kernel
theorem dX2_goes_2 : decode cX2_goes 2 = .ok (.iconst 0, 1) := by decide +kernel
theorem dX2_goes_3 : decode cX2_goes 3 = .ok (.invokestatic 47, 3) := by decide +kernel
theorem dX2_goes_6 : decode cX2_goes 6 = .ok (.iaload, 1) := by decide +kernel
theorem dX2_goes_7 : decode cX2_goes 7 = .ok (.istore_n 2, 1) := by decide +kernel
theorem dX2_goes_8 : decode cX2_goes 8 = .ok (.aload_n 0, 1) := by decide +kernel
theorem dX2_goes_9 : decode cX2_goes 9 = .ok (.iload_n 2, 1) := by decide +kernel
theorem dX2_goes_10 : decode cX2_goes 10 = .ok (.invokestatic 55, 3) := by decide +kernel
theorem dX2_goes_13 : decode cX2_goes 13 = .ok (.ifCond .eq 4, 3) := by decide +kernel
theorem dX2_goes_16 : decode cX2_goes 16 = .ok (.return_, 1) := by decide +kernel
theorem dX2_goes_17 : decode cX2_goes 17 = .ok (.aload_n 0, 1) := by decide +kernel
theorem dX2_goes_18 : decode cX2_goes 18 = .ok (.iload_n 1, 1) := by decide +kernel
theorem dX2_goes_19 : decode cX2_goes 19 = .ok (.aload_n 0, 1) := by decide +kernel
theorem dX2_goes_20 : decode cX2_goes 20 = .ok (.iconst 1, 1) := by decide +kernel
theorem dX2_goes_21 : decode cX2_goes 21 = .ok (.iaload, 1) := by decide +kernel
theorem dX2_goes_22 : decode cX2_goes 22 = .ok (.invokestatic 59, 3) := by decide +kernel
theorem dX2_goes_25 : decode cX2_goes 25 = .ok (.istore_n 3, 1) := by decide +kernel
theorem dX2_goes_26 : decode cX2_goes 26 = .ok (.iload_n 2, 1) := by decide +kernel
theorem dX2_goes_27 : decode cX2_goes 27 = .ok (.iload_n 3, 1) := by decide +kernel
theorem dX2_goes_28 : decode cX2_goes 28 = .ok (.invokestatic 63, 3) := by decide +kernel
theorem dX2_goes_31 : decode cX2_goes 31 = .ok (.istore 4, 2) := by decide +kernel
theorem dX2_goes_33 : decode cX2_goes 33 = .ok (.iload 4, 2) := by decide +kernel
theorem dX2_goes_35 : decode cX2_goes 35 = .ok (.ifCond .ge 37, 3) := by decide +kernel
theorem dX2_goes_38 : decode cX2_goes 38 = .ok (.aload_n 0, 1) := by decide +kernel
theorem dX2_goes_39 : decode cX2_goes 39 = .ok (.iload_n 1, 1) := by decide +kernel
theorem dX2_goes_40 : decode cX2_goes 40 = .ok (.iconst 1, 1) := by decide +kernel
theorem dX2_goes_41 : decode cX2_goes 41 = .ok (.invokestatic 47, 3) := by decide +kernel
theorem dX2_goes_44 : decode cX2_goes 44 = .ok (.iload_n 3, 1) := by decide +kernel
theorem dX2_goes_45 : decode cX2_goes 45 = .ok (.iconst 2, 1) := by decide +kernel
theorem dX2_goes_46 : decode cX2_goes 46 = .ok (.iadd, 1) := by decide +kernel
theorem dX2_goes_47 : decode cX2_goes 47 = .ok (.iconst 4, 1) := by decide +kernel
theorem dX2_goes_48 : decode cX2_goes 48 = .ok (.irem, 1) := by decide +kernel
theorem dX2_goes_49 : decode cX2_goes 49 = .ok (.iastore, 1) := by decide +kernel
theorem dX2_goes_50 : decode cX2_goes 50 = .ok (.aload_n 0, 1) := by decide +kernel
theorem dX2_goes_51 : decode cX2_goes 51 = .ok (.iload_n 1, 1) := by decide +kernel
theorem dX2_goes_52 : decode cX2_goes 52 = .ok (.iconst 2, 1) := by decide +kernel
theorem dX2_goes_53 : decode cX2_goes 53 = .ok (.invokestatic 47, 3) := by decide +kernel
theorem dX2_goes_56 : decode cX2_goes 56 = .ok (.bipush 99, 2) := by decide +kernel
theorem dX2_goes_58 : decode cX2_goes 58 = .ok (.aload_n 0, 1) := by decide +kernel
theorem dX2_goes_59 : decode cX2_goes 59 = .ok (.iload_n 1, 1) := by decide +kernel
theorem dX2_goes_60 : decode cX2_goes 60 = .ok (.iconst 2, 1) := by decide +kernel
theorem dX2_goes_61 : decode cX2_goes 61 = .ok (.invokestatic 47, 3) := by decide +kernel
theorem dX2_goes_64 : decode cX2_goes 64 = .ok (.iaload, 1) := by decide +kernel
theorem dX2_goes_65 : decode cX2_goes 65 = .ok (.iconst 1, 1) := by decide +kernel
theorem dX2_goes_66 : decode cX2_goes 66 = .ok (.iadd, 1) := by decide +kernel
theorem dX2_goes_67 : decode cX2_goes 67 = .ok (.invokestatic 66, 3) := by decide +kernel
theorem dX2_goes_70 : decode cX2_goes 70 = .ok (.iastore, 1) := by decide +kernel
theorem dX2_goes_71 : decode cX2_goes 71 = .ok (.return_, 1) := by decide +kernel
theorem dX2_goes_72 : decode cX2_goes 72 = .ok (.aload_n 0, 1) := by decide +kernel
theorem dX2_goes_73 : decode cX2_goes 73 = .ok (.iload_n 1, 1) := by decide +kernel
theorem dX2_goes_74 : decode cX2_goes 74 = .ok (.iconst 0, 1) := by decide +kernel
theorem dX2_goes_75 : decode cX2_goes 75 = .ok (.invokestatic 47, 3) := by decide +kernel
theorem dX2_goes_78 : decode cX2_goes 78 = .ok (.iload 4, 2) := by decide +kernel
theorem dX2_goes_80 : decode cX2_goes 80 = .ok (.iastore, 1) := by decide +kernel
theorem dX2_goes_81 : decode cX2_goes 81 = .ok (.aload_n 0, 1) := by decide +kernel
theorem dX2_goes_82 : decode cX2_goes 82 = .ok (.iload_n 1, 1) := by decide +kernel
theorem dX2_goes_83 : decode cX2_goes 83 = .ok (.iconst 1, 1) := by decide +kernel
theorem dX2_goes_84 : decode cX2_goes 84 = .ok (.invokestatic 47, 3) := by decide +kernel
theorem dX2_goes_87 : decode cX2_goes 87 = .ok (.iload_n 3, 1) := by decide +kernel
theorem dX2_goes_88 : decode cX2_goes 88 = .ok (.iastore, 1) := by decide +kernel
theorem dX2_goes_89 : decode cX2_goes 89 = .ok (.aload_n 0, 1) := by decide +kernel
theorem dX2_goes_90 : decode cX2_goes 90 = .ok (.iconst 1, 1) := by decide +kernel
theorem dX2_goes_91 : decode cX2_goes 91 = .ok (.iaload, 1) := by decide +kernel
theorem dX2_goes_92 : decode cX2_goes 92 = .ok (.iconst 2, 1) := by decide +kernel
theorem dX2_goes_93 : decode cX2_goes 93 = .ok (.irem, 1) := by decide +kernel
theorem dX2_goes_94 : decode cX2_goes 94 = .ok (.ifCond .ne 13, 3) := by decide +kernel
theorem dX2_goes_97 : decode cX2_goes 97 = .ok (.aload_n 0, 1) := by decide +kernel
theorem dX2_goes_98 : decode cX2_goes 98 = .ok (.bipush 63, 2) := by decide +kernel
theorem dX2_goes_100 : decode cX2_goes 100 = .ok (.iload_n 2, 1) := by decide +kernel
theorem dX2_goes_101 : decode cX2_goes 101 = .ok (.iadd, 1) := by decide +kernel
theorem dX2_goes_102 : decode cX2_goes 102 = .ok (.dup2, 1) := by decide +kernel
theorem dX2_goes_103 : decode cX2_goes 103 = .ok (.iaload, 1) := by decide +kernel
theorem dX2_goes_104 : decode cX2_goes 104 = .ok (.iconst 1, 1) := by decide +kernel
theorem dX2_goes_105 : decode cX2_goes 105 = .ok (.isub, 1) := by decide +kernel
theorem dX2_goes_106 : decode cX2_goes 106 = .ok (.iastore, 1) := by decide +kernel
theorem dX2_goes_107 : decode cX2_goes 107 = .ok (.return_, 1) := by decide +kernel
set_option maxRecDepth 20000 in
theorem ggX2_step_X2_has : GoodIn wsX2_step wsX2_has := goodIn_r _ [4] (by decide +kernel) (by decide +kernel)
set_option maxRecDepth 20000 in
theorem gX2_step_X2_has : GoodIn wsX2_step (va_wsS RX2 69 yX2_has wsX2_has) := goodIn_app (goodIn_of _ (by decide +kernel)) ggX2_step_X2_has
set_option maxRecDepth 20000 in
theorem ggX2_step_X2_goes : GoodIn wsX2_step wsX2_goes := goodIn_r _ [7, 8, 9, 3, 10, 11, 12, 13, 14, 15, 16, 17, 18, 19, 20, 21, 22, 23, 24, 25] (by decide +kernel) (by decide +kernel)
set_option maxRecDepth 20000 in
theorem gX2_step_X2_goes : GoodIn wsX2_step (va_wsS RX2 73 yX2_goes wsX2_goes) := goodIn_app (goodIn_of _ (by decide +kernel)) ggX2_step_X2_goes
theorem dX2_step_0 : decode cX2_step 0 = .ok (.aload_n 0, 1) := by decide +kernel
theorem dX2_step_1 : decode cX2_step 1 = .ok (.iconst 1, 1) := by decide +kernel
theorem dX2_step_2 : decode cX2_step 2 = .ok (.dup2, 1) := by decide +kernel
theorem dX2_step_3 : decode cX2_step 3 = .ok (.iaload, 1) := by decide +kernel
theorem dX2_step_4 : decode cX2_step 4 = .ok (.iconst 1, 1) := by decide +kernel
theorem dX2_step_5 : decode cX2_step 5 = .ok (.iadd, 1) := by decide +kernel
theorem dX2_step_6 : decode cX2_step 6 = .ok (.iastore, 1) := by decide +kernel
theorem dX2_step_7 : decode cX2_step 7 = .ok (.iconst 0, 1) := by decide +kernel
theorem dX2_step_8 : decode cX2_step 8 = .ok (.istore_n 1, 1) := by decide +kernel
theorem dX2_step_9 : decode cX2_step 9 = .ok (.iload_n 1, 1) := by decide +kernel
theorem dX2_step_10 : decode cX2_step 10 = .ok (.aload_n 0, 1) := by decide +kernel
theorem dX2_step_11 : decode cX2_step 11 = .ok (.iconst 0, 1) := by decide +kernel
theorem dX2_step_12 : decode cX2_step 12 = .ok (.iaload, 1) := by decide +kernel
theorem dX2_step_13 : decode cX2_step 13 = .ok (.if_icmp .ge 24, 3) := by decide +kernel
theorem dX2_step_16 : decode cX2_step 16 = .ok (.aload_n 0, 1) := by decide +kernel
theorem dX2_step_17 : decode cX2_step 17 = .ok (.iconst 2, 1) := by decide +kernel
theorem dX2_step_18 : decode cX2_step 18 = .ok (.iaload, 1) := by decide +kernel
theorem dX2_step_19 : decode cX2_step 19 = .ok (.iload_n 1, 1) := by decide +kernel
theorem dX2_step_20 : decode cX2_step 20 = .ok (.invokestatic 69, 3) := by decide +kernel
theorem dX2_step_23 : decode cX2_step 23 = .ok (.ifCond .ne 8, 3) := by decide +kernel
theorem dX2_step_26 : decode cX2_step 26 = .ok (.aload_n 0, 1) := by decide +kernel
theorem dX2_step_27 : decode cX2_step 27 = .ok (.iload_n 1, 1) := by decide +kernel
theorem dX2_step_28 : decode cX2_step 28 = .ok (.invokestatic 73, 3) := by decide +kernel
theorem dX2_step_31 : decode cX2_step 31 = .ok (.iinc 1 1, 3) := by decide +kernel
theorem dX2_step_34 : decode cX2_step 34 = .ok (.goto (-25), 3) := by decide +kernel
theorem dX2_step_37 : decode cX2_step 37 = .ok (.return_, 1) := by decide +kernel
set_option maxRecDepth 20000 in
theorem ggX2_stepsOn_X2_step : GoodIn wsX2_stepsOn wsX2_step := goodIn_r _ [4, 5, 6, 3, 7, 8, 9, 10, 11, 12, 13, 14, 15, 16, 17, 18, 19, 20, 21, 22, 23, 24, 25, 26, 27, 28] (by decide +kernel) (by decide +kernel)
set_option maxRecDepth 20000 in
theorem gX2_stepsOn_X2_step : GoodIn wsX2_stepsOn (va_wsS RX2 77 yX2_step wsX2_step) := goodIn_app (goodIn_of _ (by decide +kernel)) ggX2_stepsOn_X2_step
theorem dX2_stepsOn_0 : decode cX2_stepsOn 0 = .ok (.iconst 0, 1) := by decide +kernel
theorem dX2_stepsOn_1 : decode cX2_stepsOn 1 = .ok (.istore_n 2, 1) := by decide +kernel
theorem dX2_stepsOn_2 : decode cX2_stepsOn 2 = .ok (.iload_n 2, 1) := by decide +kernel
theorem dX2_stepsOn_3 : decode cX2_stepsOn 3 = .ok (.iload_n 1, 1) := by decide +kernel
theorem dX2_stepsOn_4 : decode cX2_stepsOn 4 = .ok (.if_icmp .ge 13, 3) := by decide +kernel
theorem dX2_stepsOn_7 : decode cX2_stepsOn 7 = .ok (.aload_n 0, 1) := by decide +kernel
theorem dX2_stepsOn_8 : decode cX2_stepsOn 8 = .ok (.invokestatic 77, 3) := by decide +kernel
theorem dX2_stepsOn_11 : decode cX2_stepsOn 11 = .ok (.iinc 2 1, 3) := by decide +kernel
theorem dX2_stepsOn_14 : decode cX2_stepsOn 14 = .ok (.goto (-12), 3) := by decide +kernel
theorem dX2_stepsOn_17 : decode cX2_stepsOn 17 = .ok (.return_, 1) := by decide +kernel
theorem dX2_sumOf_0 : decode cX2_sumOf 0 = .ok (.iconst 0, 1) := by decide +kernel
theorem dX2_sumOf_1 : decode cX2_sumOf 1 = .ok (.istore 4, 2) := by decide +kernel
theorem dX2_sumOf_3 : decode cX2_sumOf 3 = .ok (.iconst 0, 1) := by decide +kernel
theorem dX2_sumOf_4 : decode cX2_sumOf 4 = .ok (.istore 5, 2) := by decide +kernel
theorem dX2_sumOf_6 : decode cX2_sumOf 6 = .ok (.iload 5, 2) := by decide +kernel
theorem dX2_sumOf_8 : decode cX2_sumOf 8 = .ok (.iload_n 2, 1) := by decide +kernel
theorem dX2_sumOf_9 : decode cX2_sumOf 9 = .ok (.if_icmp .ge 22, 3) := by decide +kernel
theorem dX2_sumOf_12 : decode cX2_sumOf 12 = .ok (.iload 4, 2) := by decide +kernel
theorem dX2_sumOf_14 : decode cX2_sumOf 14 = .ok (.aload_n 0, 1) := by decide +kernel
theorem dX2_sumOf_15 : decode cX2_sumOf 15 = .ok (.iload_n 1, 1) := by decide +kernel
theorem dX2_sumOf_16 : decode cX2_sumOf 16 = .ok (.iload_n 3, 1) := by decide +kernel
theorem dX2_sumOf_17 : decode cX2_sumOf 17 = .ok (.iload 5, 2) := by decide +kernel
theorem dX2_sumOf_19 : decode cX2_sumOf 19 = .ok (.imul, 1) := by decide +kernel
theorem dX2_sumOf_20 : decode cX2_sumOf 20 = .ok (.iadd, 1) := by decide +kernel
theorem dX2_sumOf_21 : decode cX2_sumOf 21 = .ok (.iaload, 1) := by decide +kernel
theorem dX2_sumOf_22 : decode cX2_sumOf 22 = .ok (.iadd, 1) := by decide +kernel
theorem dX2_sumOf_23 : decode cX2_sumOf 23 = .ok (.istore 4, 2) := by decide +kernel
theorem dX2_sumOf_25 : decode cX2_sumOf 25 = .ok (.iinc 5 1, 3) := by decide +kernel
theorem dX2_sumOf_28 : decode cX2_sumOf 28 = .ok (.goto (-22), 3) := by decide +kernel
theorem dX2_sumOf_31 : decode cX2_sumOf 31 = .ok (.iload 4, 2) := by decide +kernel
theorem dX2_sumOf_33 : decode cX2_sumOf 33 = .ok (.ireturn, 1) := by decide +kernel
set_option maxRecDepth 20000 in
theorem ggX2_allWet_X2_sumOf : GoodIn wsX2_allWet wsX2_sumOf := goodIn_r _ [4] (by decide +kernel) (by decide +kernel)
set_option maxRecDepth 20000 in
theorem gX2_allWet_X2_sumOf : GoodIn wsX2_allWet (va_wsS RX2 81 yX2_sumOf wsX2_sumOf) := goodIn_app (goodIn_of _ (by decide +kernel)) ggX2_allWet_X2_sumOf
theorem dX2_allWet_0 : decode cX2_allWet 0 = .ok (.aload_n 0, 1) := by decide +kernel
theorem dX2_allWet_1 : decode cX2_allWet 1 = .ok (.bipush 63, 2) := by decide +kernel
theorem dX2_allWet_3 : decode cX2_allWet 3 = .ok (.bipush 30, 2) := by decide +kernel
theorem dX2_allWet_5 : decode cX2_allWet 5 = .ok (.iconst 1, 1) := by decide +kernel
theorem dX2_allWet_6 : decode cX2_allWet 6 = .ok (.invokestatic 81, 3) := by decide +kernel
theorem dX2_allWet_9 : decode cX2_allWet 9 = .ok (.ireturn, 1) := by decide +kernel
set_option maxRecDepth 20000 in
theorem ggX2_allHelped_X2_of : GoodIn wsX2_allHelped wsX2_of := goodIn_r _ [4] (by decide +kernel) (by decide +kernel)
set_option maxRecDepth 20000 in
theorem gX2_allHelped_X2_of : GoodIn wsX2_allHelped (va_wsS RX2 47 yX2_of wsX2_of) := goodIn_app (goodIn_of _ (by decide +kernel)) ggX2_allHelped_X2_of
set_option maxRecDepth 20000 in
theorem ggX2_allHelped_X2_sumOf : GoodIn wsX2_allHelped wsX2_sumOf := goodIn_r _ [7] (by decide +kernel) (by decide +kernel)
set_option maxRecDepth 20000 in
theorem gX2_allHelped_X2_sumOf : GoodIn wsX2_allHelped (va_wsS RX2 81 yX2_sumOf wsX2_sumOf) := goodIn_app (goodIn_of _ (by decide +kernel)) ggX2_allHelped_X2_sumOf
theorem dX2_allHelped_0 : decode cX2_allHelped 0 = .ok (.aload_n 0, 1) := by decide +kernel
theorem dX2_allHelped_1 : decode cX2_allHelped 1 = .ok (.iconst 0, 1) := by decide +kernel
theorem dX2_allHelped_2 : decode cX2_allHelped 2 = .ok (.iconst 2, 1) := by decide +kernel
theorem dX2_allHelped_3 : decode cX2_allHelped 3 = .ok (.invokestatic 47, 3) := by decide +kernel
theorem dX2_allHelped_6 : decode cX2_allHelped 6 = .ok (.aload_n 0, 1) := by decide +kernel
theorem dX2_allHelped_7 : decode cX2_allHelped 7 = .ok (.iconst 0, 1) := by decide +kernel
theorem dX2_allHelped_8 : decode cX2_allHelped 8 = .ok (.iaload, 1) := by decide +kernel
theorem dX2_allHelped_9 : decode cX2_allHelped 9 = .ok (.iconst 3, 1) := by decide +kernel
theorem dX2_allHelped_10 : decode cX2_allHelped 10 = .ok (.invokestatic 81, 3) := by decide +kernel
theorem dX2_allHelped_13 : decode cX2_allHelped 13 = .ok (.ireturn, 1) := by decide +kernel
set_option maxRecDepth 20000 in
theorem ggX2_letter_X2_no : GoodIn wsX2_letter wsX2_no := goodIn_r _ [7, 8, 9, 10, 11, 12, 13, 14, 15, 16, 17, 18, 19, 20, 21, 22] (by decide +kernel) (by decide +kernel)
set_option maxRecDepth 20000 in
theorem gX2_letter_X2_no : GoodIn wsX2_letter (wsV RX2 39 RX2 yX2_no wsX2_no) := goodIn_app (goodIn_of _ (by decide +kernel)) ggX2_letter_X2_no
theorem dX2_letter_0 : decode cX2_letter 0 = .ok (.iload_n 1, 1) := by decide +kernel
theorem dX2_letter_1 : decode cX2_letter 1 = .ok (.ifCond .ge 10, 3) := by decide +kernel
theorem dX2_letter_4 : decode cX2_letter 4 = .ok (.aload_n 0, 1) := by decide +kernel
theorem dX2_letter_5 : decode cX2_letter 5 = .ok (.bipush (-4), 2) := by decide +kernel
theorem dX2_letter_7 : decode cX2_letter 7 = .ok (.invokevirtual 39, 3) := by decide +kernel
theorem dX2_letter_10 : decode cX2_letter 10 = .ok (.ireturn, 1) := by decide +kernel
theorem dX2_letter_11 : decode cX2_letter 11 = .ok (.iload_n 1, 1) := by decide +kernel
theorem dX2_letter_12 : decode cX2_letter 12 = .ok (.sipush 255, 3) := by decide +kernel
theorem dX2_letter_15 : decode cX2_letter 15 = .ok (.if_icmp .gt 12, 3) := by decide +kernel
theorem dX2_letter_18 : decode cX2_letter 18 = .ok (.aload_n 0, 1) := by decide +kernel
theorem dX2_letter_19 : decode cX2_letter 19 = .ok (.getfield 85, 3) := by decide +kernel
theorem dX2_letter_22 : decode cX2_letter 22 = .ok (.bipush 96, 2) := by decide +kernel
theorem dX2_letter_24 : decode cX2_letter 24 = .ok (.if_icmp .ne 10, 3) := by decide +kernel
theorem dX2_letter_27 : decode cX2_letter 27 = .ok (.aload_n 0, 1) := by decide +kernel
theorem dX2_letter_28 : decode cX2_letter 28 = .ok (.bipush (-6), 2) := by decide +kernel
theorem dX2_letter_30 : decode cX2_letter 30 = .ok (.invokevirtual 39, 3) := by decide +kernel
theorem dX2_letter_33 : decode cX2_letter 33 = .ok (.ireturn, 1) := by decide +kernel
theorem dX2_letter_34 : decode cX2_letter 34 = .ok (.aload_n 0, 1) := by decide +kernel
theorem dX2_letter_35 : decode cX2_letter 35 = .ok (.getfield 22, 3) := by decide +kernel
theorem dX2_letter_38 : decode cX2_letter 38 = .ok (.aload_n 0, 1) := by decide +kernel
theorem dX2_letter_39 : decode cX2_letter 39 = .ok (.getfield 85, 3) := by decide +kernel
theorem dX2_letter_42 : decode cX2_letter 42 = .ok (.iload_n 1, 1) := by decide +kernel
theorem dX2_letter_43 : decode cX2_letter 43 = .ok (.iastore, 1) := by decide +kernel
theorem dX2_letter_44 : decode cX2_letter 44 = .ok (.aload_n 0, 1) := by decide +kernel
theorem dX2_letter_45 : decode cX2_letter 45 = .ok (.dup, 1) := by decide +kernel
theorem dX2_letter_46 : decode cX2_letter 46 = .ok (.getfield 85, 3) := by decide +kernel
theorem dX2_letter_49 : decode cX2_letter 49 = .ok (.iconst 1, 1) := by decide +kernel
theorem dX2_letter_50 : decode cX2_letter 50 = .ok (.iadd, 1) := by decide +kernel
theorem dX2_letter_51 : decode cX2_letter 51 = .ok (.putfield 85, 3) := by decide +kernel
theorem dX2_letter_54 : decode cX2_letter 54 = .ok (.aload_n 0, 1) := by decide +kernel
theorem dX2_letter_55 : decode cX2_letter 55 = .ok (.getfield 85, 3) := by decide +kernel
theorem dX2_letter_58 : decode cX2_letter 58 = .ok (.ireturn, 1) := by decide +kernel
theorem dX2_here_0 : decode cX2_here 0 = .ok (.aload_n 0, 1) := by decide +kernel
theorem dX2_here_1 : decode cX2_here 1 = .ok (.getfield 89, 3) := by decide +kernel
theorem dX2_here_4 : decode cX2_here 4 = .ok (.aload_n 0, 1) := by decide +kernel
theorem dX2_here_5 : decode cX2_here 5 = .ok (.getfield 85, 3) := by decide +kernel
theorem dX2_here_8 : decode cX2_here 8 = .ok (.if_icmp .ge 15, 3) := by decide +kernel
theorem dX2_here_11 : decode cX2_here 11 = .ok (.aload_n 0, 1) := by decide +kernel
theorem dX2_here_12 : decode cX2_here 12 = .ok (.getfield 22, 3) := by decide +kernel
theorem dX2_here_15 : decode cX2_here 15 = .ok (.aload_n 0, 1) := by decide +kernel
theorem dX2_here_16 : decode cX2_here 16 = .ok (.getfield 89, 3) := by decide +kernel
theorem dX2_here_19 : decode cX2_here 19 = .ok (.iaload, 1) := by decide +kernel
theorem dX2_here_20 : decode cX2_here 20 = .ok (.goto 4, 3) := by decide +kernel
theorem dX2_here_23 : decode cX2_here 23 = .ok (.iconst (-1), 1) := by decide +kernel
theorem dX2_here_24 : decode cX2_here 24 = .ok (.ireturn, 1) := by decide +kernel
set_option maxRecDepth 20000 in
theorem ggX2_readsNumber_X2_here : GoodIn wsX2_readsNumber wsX2_here := goodIn_r _ [7, 2, 8, 9, 13, 14, 15, 16, 17, 18, 19, 20, 21, 22, 23, 24, 25, 26] (by decide +kernel) (by decide +kernel)
set_option maxRecDepth 20000 in
theorem gX2_readsNumber_X2_here : GoodIn wsX2_readsNumber (wsV RX2 92 RX2 yX2_here wsX2_here) := goodIn_app (goodIn_of _ (by decide +kernel)) ggX2_readsNumber_X2_here
set_option maxRecDepth 20000 in
theorem ggX2_readsNumber_X2_isIn : GoodIn wsX2_readsNumber wsX2_isIn := goodIn_r _ [12] (by decide +kernel) (by decide +kernel)
set_option maxRecDepth 20000 in
theorem gX2_readsNumber_X2_isIn : GoodIn wsX2_readsNumber (va_wsS RX2 43 yX2_isIn wsX2_isIn) := goodIn_app (goodIn_of _ (by decide +kernel)) ggX2_readsNumber_X2_isIn
theorem dX2_readsNumber_0 : decode cX2_readsNumber 0 = .ok (.aload_n 0, 1) := by decide +kernel
theorem dX2_readsNumber_1 : decode cX2_readsNumber 1 = .ok (.getfield 31, 3) := by decide +kernel
theorem dX2_readsNumber_4 : decode cX2_readsNumber 4 = .ok (.iload_n 1, 1) := by decide +kernel
theorem dX2_readsNumber_5 : decode cX2_readsNumber 5 = .ok (.iconst 0, 1) := by decide +kernel
theorem dX2_readsNumber_6 : decode cX2_readsNumber 6 = .ok (.iastore, 1) := by decide +kernel
theorem dX2_readsNumber_7 : decode cX2_readsNumber 7 = .ok (.iconst 0, 1) := by decide +kernel
theorem dX2_readsNumber_8 : decode cX2_readsNumber 8 = .ok (.istore_n 3, 1) := by decide +kernel
theorem dX2_readsNumber_9 : decode cX2_readsNumber 9 = .ok (.iload_n 3, 1) := by decide +kernel
theorem dX2_readsNumber_10 : decode cX2_readsNumber 10 = .ok (.iload_n 2, 1) := by decide +kernel
theorem dX2_readsNumber_11 : decode cX2_readsNumber 11 = .ok (.if_icmp .ge 58, 3) := by decide +kernel
theorem dX2_readsNumber_14 : decode cX2_readsNumber 14 = .ok (.aload_n 0, 1) := by decide +kernel
theorem dX2_readsNumber_15 : decode cX2_readsNumber 15 = .ok (.invokevirtual 92, 3) := by decide +kernel
theorem dX2_readsNumber_18 : decode cX2_readsNumber 18 = .ok (.bipush 48, 2) := by decide +kernel
theorem dX2_readsNumber_20 : decode cX2_readsNumber 20 = .ok (.bipush 57, 2) := by decide +kernel
theorem dX2_readsNumber_22 : decode cX2_readsNumber 22 = .ok (.invokestatic 43, 3) := by decide +kernel
theorem dX2_readsNumber_25 : decode cX2_readsNumber 25 = .ok (.ifCond .ne 5, 3) := by decide +kernel
theorem dX2_readsNumber_28 : decode cX2_readsNumber 28 = .ok (.iconst 0, 1) := by decide +kernel
theorem dX2_readsNumber_29 : decode cX2_readsNumber 29 = .ok (.ireturn, 1) := by decide +kernel
theorem dX2_readsNumber_30 : decode cX2_readsNumber 30 = .ok (.aload_n 0, 1) := by decide +kernel
theorem dX2_readsNumber_31 : decode cX2_readsNumber 31 = .ok (.getfield 31, 3) := by decide +kernel
theorem dX2_readsNumber_34 : decode cX2_readsNumber 34 = .ok (.iload_n 1, 1) := by decide +kernel
theorem dX2_readsNumber_35 : decode cX2_readsNumber 35 = .ok (.bipush 10, 2) := by decide +kernel
theorem dX2_readsNumber_37 : decode cX2_readsNumber 37 = .ok (.aload_n 0, 1) := by decide +kernel
theorem dX2_readsNumber_38 : decode cX2_readsNumber 38 = .ok (.getfield 31, 3) := by decide +kernel
theorem dX2_readsNumber_41 : decode cX2_readsNumber 41 = .ok (.iload_n 1, 1) := by decide +kernel
theorem dX2_readsNumber_42 : decode cX2_readsNumber 42 = .ok (.iaload, 1) := by decide +kernel
theorem dX2_readsNumber_43 : decode cX2_readsNumber 43 = .ok (.imul, 1) := by decide +kernel
theorem dX2_readsNumber_44 : decode cX2_readsNumber 44 = .ok (.aload_n 0, 1) := by decide +kernel
theorem dX2_readsNumber_45 : decode cX2_readsNumber 45 = .ok (.invokevirtual 92, 3) := by decide +kernel
theorem dX2_readsNumber_48 : decode cX2_readsNumber 48 = .ok (.iadd, 1) := by decide +kernel
theorem dX2_readsNumber_49 : decode cX2_readsNumber 49 = .ok (.bipush 48, 2) := by decide +kernel
theorem dX2_readsNumber_51 : decode cX2_readsNumber 51 = .ok (.isub, 1) := by decide +kernel
theorem dX2_readsNumber_52 : decode cX2_readsNumber 52 = .ok (.iastore, 1) := by decide +kernel
theorem dX2_readsNumber_53 : decode cX2_readsNumber 53 = .ok (.aload_n 0, 1) := by decide +kernel
theorem dX2_readsNumber_54 : decode cX2_readsNumber 54 = .ok (.dup, 1) := by decide +kernel
theorem dX2_readsNumber_55 : decode cX2_readsNumber 55 = .ok (.getfield 89, 3) := by decide +kernel
theorem dX2_readsNumber_58 : decode cX2_readsNumber 58 = .ok (.iconst 1, 1) := by decide +kernel
theorem dX2_readsNumber_59 : decode cX2_readsNumber 59 = .ok (.iadd, 1) := by decide +kernel
theorem dX2_readsNumber_60 : decode cX2_readsNumber 60 = .ok (.putfield 89, 3) := by decide +kernel
theorem dX2_readsNumber_63 : decode cX2_readsNumber 63 = .ok (.iinc 3 1, 3) := by decide +kernel
theorem dX2_readsNumber_66 : decode cX2_readsNumber 66 = .ok (.goto (-57), 3) := by decide +kernel
theorem dX2_readsNumber_69 : decode cX2_readsNumber 69 = .ok (.iconst 1, 1) := by decide +kernel
theorem dX2_readsNumber_70 : decode cX2_readsNumber 70 = .ok (.ireturn, 1) := by decide +kernel
theorem dX2_kindBy_0 : decode cX2_kindBy 0 = .ok (.iload_n 0, 1) := by decide +kernel
theorem dX2_kindBy_1 : decode cX2_kindBy 1 = .ok (.lookupswitch 71 #[(98, 67), (99, 65), (108, 61), (114, 63), (115, 59), (121, 69)], 59) := by decide +kernel
theorem dX2_kindBy_60 : decode cX2_kindBy 60 = .ok (.iconst 0, 1) := by decide +kernel
theorem dX2_kindBy_61 : decode cX2_kindBy 61 = .ok (.ireturn, 1) := by decide +kernel
theorem dX2_kindBy_62 : decode cX2_kindBy 62 = .ok (.iconst 1, 1) := by decide +kernel
theorem dX2_kindBy_63 : decode cX2_kindBy 63 = .ok (.ireturn, 1) := by decide +kernel
theorem dX2_kindBy_64 : decode cX2_kindBy 64 = .ok (.iconst 2, 1) := by decide +kernel
theorem dX2_kindBy_65 : decode cX2_kindBy 65 = .ok (.ireturn, 1) := by decide +kernel
theorem dX2_kindBy_66 : decode cX2_kindBy 66 = .ok (.iconst 3, 1) := by decide +kernel
theorem dX2_kindBy_67 : decode cX2_kindBy 67 = .ok (.ireturn, 1) := by decide +kernel
theorem dX2_kindBy_68 : decode cX2_kindBy 68 = .ok (.iconst 4, 1) := by decide +kernel
theorem dX2_kindBy_69 : decode cX2_kindBy 69 = .ok (.ireturn, 1) := by decide +kernel
theorem dX2_kindBy_70 : decode cX2_kindBy 70 = .ok (.iconst 5, 1) := by decide +kernel
theorem dX2_kindBy_71 : decode cX2_kindBy 71 = .ok (.ireturn, 1) := by decide +kernel
theorem dX2_kindBy_72 : decode cX2_kindBy 72 = .ok (.bipush (-9), 2) := by decide +kernel
theorem dX2_kindBy_74 : decode cX2_kindBy 74 = .ok (.ireturn, 1) := by decide +kernel
set_option maxRecDepth 20000 in
theorem ggX2_readsKind_X2_here : GoodIn wsX2_readsKind wsX2_here := goodIn_r _ [7, 2, 8, 9, 13, 14, 15, 16, 17, 18, 19, 20, 21, 22, 23, 24, 25, 26] (by decide +kernel) (by decide +kernel)
set_option maxRecDepth 20000 in
theorem gX2_readsKind_X2_here : GoodIn wsX2_readsKind (wsV RX2 92 RX2 yX2_here wsX2_here) := goodIn_app (goodIn_of _ (by decide +kernel)) ggX2_readsKind_X2_here
set_option maxRecDepth 20000 in
theorem ggX2_readsKind_X2_kindBy : GoodIn wsX2_readsKind wsX2_kindBy := goodIn_r _ [12] (by decide +kernel) (by decide +kernel)
set_option maxRecDepth 20000 in
theorem gX2_readsKind_X2_kindBy : GoodIn wsX2_readsKind (va_wsS RX2 96 yX2_kindBy wsX2_kindBy) := goodIn_app (goodIn_of _ (by decide +kernel)) ggX2_readsKind_X2_kindBy
theorem dX2_readsKind_0 : decode cX2_readsKind 0 = .ok (.aload_n 0, 1) := by decide +kernel
theorem dX2_readsKind_1 : decode cX2_readsKind 1 = .ok (.getfield 31, 3) := by decide +kernel
theorem dX2_readsKind_4 : decode cX2_readsKind 4 = .ok (.iconst 1, 1) := by decide +kernel
theorem dX2_readsKind_5 : decode cX2_readsKind 5 = .ok (.aload_n 0, 1) := by decide +kernel
theorem dX2_readsKind_6 : decode cX2_readsKind 6 = .ok (.invokevirtual 92, 3) := by decide +kernel
theorem dX2_readsKind_9 : decode cX2_readsKind 9 = .ok (.invokestatic 96, 3) := by decide +kernel
theorem dX2_readsKind_12 : decode cX2_readsKind 12 = .ok (.iastore, 1) := by decide +kernel
theorem dX2_readsKind_13 : decode cX2_readsKind 13 = .ok (.aload_n 0, 1) := by decide +kernel
theorem dX2_readsKind_14 : decode cX2_readsKind 14 = .ok (.dup, 1) := by decide +kernel
theorem dX2_readsKind_15 : decode cX2_readsKind 15 = .ok (.getfield 89, 3) := by decide +kernel
theorem dX2_readsKind_18 : decode cX2_readsKind 18 = .ok (.aload_n 0, 1) := by decide +kernel
theorem dX2_readsKind_19 : decode cX2_readsKind 19 = .ok (.getfield 31, 3) := by decide +kernel
theorem dX2_readsKind_22 : decode cX2_readsKind 22 = .ok (.iconst 1, 1) := by decide +kernel
theorem dX2_readsKind_23 : decode cX2_readsKind 23 = .ok (.iaload, 1) := by decide +kernel
theorem dX2_readsKind_24 : decode cX2_readsKind 24 = .ok (.ifCond .ge 7, 3) := by decide +kernel
theorem dX2_readsKind_27 : decode cX2_readsKind 27 = .ok (.iconst 0, 1) := by decide +kernel
theorem dX2_readsKind_28 : decode cX2_readsKind 28 = .ok (.goto 4, 3) := by decide +kernel
theorem dX2_readsKind_31 : decode cX2_readsKind 31 = .ok (.iconst 1, 1) := by decide +kernel
theorem dX2_readsKind_32 : decode cX2_readsKind 32 = .ok (.iadd, 1) := by decide +kernel
theorem dX2_readsKind_33 : decode cX2_readsKind 33 = .ok (.putfield 89, 3) := by decide +kernel
theorem dX2_readsKind_36 : decode cX2_readsKind 36 = .ok (.aload_n 0, 1) := by decide +kernel
theorem dX2_readsKind_37 : decode cX2_readsKind 37 = .ok (.getfield 31, 3) := by decide +kernel
theorem dX2_readsKind_40 : decode cX2_readsKind 40 = .ok (.iconst 1, 1) := by decide +kernel
theorem dX2_readsKind_41 : decode cX2_readsKind 41 = .ok (.iaload, 1) := by decide +kernel
theorem dX2_readsKind_42 : decode cX2_readsKind 42 = .ok (.ifCond .lt 7, 3) := by decide +kernel
theorem dX2_readsKind_45 : decode cX2_readsKind 45 = .ok (.iconst 1, 1) := by decide +kernel
theorem dX2_readsKind_46 : decode cX2_readsKind 46 = .ok (.goto 4, 3) := by decide +kernel
theorem dX2_readsKind_49 : decode cX2_readsKind 49 = .ok (.iconst 0, 1) := by decide +kernel
theorem dX2_readsKind_50 : decode cX2_readsKind 50 = .ok (.ireturn, 1) := by decide +kernel
set_option maxRecDepth 20000 in
theorem ggX2_readsStatement_X2_here : GoodIn wsX2_readsStatement wsX2_here := goodIn_r _ [6, 1, 7, 8, 24, 25, 26, 27, 28, 29, 30, 31, 32, 33, 34, 35, 36, 37] (by decide +kernel) (by decide +kernel)
set_option maxRecDepth 20000 in
theorem gX2_readsStatement_X2_here : GoodIn wsX2_readsStatement (wsV RX2 92 RX2 yX2_here wsX2_here) := goodIn_app (goodIn_of _ (by decide +kernel)) ggX2_readsStatement_X2_here
set_option maxRecDepth 20000 in
theorem ggX2_readsStatement_X2_readsNumber : GoodIn wsX2_readsStatement wsX2_readsNumber := goodIn_r _ [12, 13, 1, 2, 3, 4, 5, 6, 7, 8, 14, 15, 16, 24, 25, 26, 27, 28, 29, 30, 31, 32, 33, 34, 35, 36, 37] (by decide +kernel) (by decide +kernel)
set_option maxRecDepth 20000 in
theorem gX2_readsStatement_X2_readsNumber : GoodIn wsX2_readsStatement (wsV RX2 99 RX2 yX2_readsNumber wsX2_readsNumber) := goodIn_app (goodIn_of _ (by decide +kernel)) ggX2_readsStatement_X2_readsNumber
set_option maxRecDepth 20000 in
theorem ggX2_readsStatement_X2_readsKind : GoodIn wsX2_readsStatement wsX2_readsKind := goodIn_r _ [20, 13, 1, 2, 3, 4, 5, 6, 7, 8, 21, 22, 23, 24, 25, 26, 27, 28, 29, 30, 31, 32, 33, 34, 35, 36, 37] (by decide +kernel) (by decide +kernel)
set_option maxRecDepth 20000 in
theorem gX2_readsStatement_X2_readsKind : GoodIn wsX2_readsStatement (wsV RX2 102 RX2 yX2_readsKind wsX2_readsKind) := goodIn_app (goodIn_of _ (by decide +kernel)) ggX2_readsStatement_X2_readsKind
theorem dX2_readsStatement_0 : decode cX2_readsStatement 0 = .ok (.aload_n 0, 1) := by decide +kernel
theorem dX2_readsStatement_1 : decode cX2_readsStatement 1 = .ok (.invokevirtual 92, 3) := by decide +kernel
theorem dX2_readsStatement_4 : decode cX2_readsStatement 4 = .ok (.istore_n 1, 1) := by decide +kernel
theorem dX2_readsStatement_5 : decode cX2_readsStatement 5 = .ok (.aload_n 0, 1) := by decide +kernel
theorem dX2_readsStatement_6 : decode cX2_readsStatement 6 = .ok (.dup, 1) := by decide +kernel
theorem dX2_readsStatement_7 : decode cX2_readsStatement 7 = .ok (.getfield 89, 3) := by decide +kernel
theorem dX2_readsStatement_10 : decode cX2_readsStatement 10 = .ok (.iconst 1, 1) := by decide +kernel
theorem dX2_readsStatement_11 : decode cX2_readsStatement 11 = .ok (.iadd, 1) := by decide +kernel
theorem dX2_readsStatement_12 : decode cX2_readsStatement 12 = .ok (.putfield 89, 3) := by decide +kernel
theorem dX2_readsStatement_15 : decode cX2_readsStatement 15 = .ok (.iload_n 1, 1) := by decide +kernel
theorem dX2_readsStatement_16 : decode cX2_readsStatement 16 = .ok (.lookupswitch 185 #[(97, 148), (104, 121), (110, 60), (112, 94), (115, 175), (119, 94)], 60) := by decide +kernel
theorem dX2_readsStatement_76 : decode cX2_readsStatement 76 = .ok (.aload_n 0, 1) := by decide +kernel
theorem dX2_readsStatement_77 : decode cX2_readsStatement 77 = .ok (.iconst 0, 1) := by decide +kernel
theorem dX2_readsStatement_78 : decode cX2_readsStatement 78 = .ok (.iconst 2, 1) := by decide +kernel
theorem dX2_readsStatement_79 : decode cX2_readsStatement 79 = .ok (.invokevirtual 99, 3) := by decide +kernel
theorem dX2_readsStatement_82 : decode cX2_readsStatement 82 = .ok (.ifCond .eq 23, 3) := by decide +kernel
theorem dX2_readsStatement_85 : decode cX2_readsStatement 85 = .ok (.aload_n 0, 1) := by decide +kernel
theorem dX2_readsStatement_86 : decode cX2_readsStatement 86 = .ok (.invokevirtual 102, 3) := by decide +kernel
theorem dX2_readsStatement_89 : decode cX2_readsStatement 89 = .ok (.ifCond .eq 16, 3) := by decide +kernel
theorem dX2_readsStatement_92 : decode cX2_readsStatement 92 = .ok (.aload_n 0, 1) := by decide +kernel
theorem dX2_readsStatement_93 : decode cX2_readsStatement 93 = .ok (.iconst 2, 1) := by decide +kernel
theorem dX2_readsStatement_94 : decode cX2_readsStatement 94 = .ok (.iconst 1, 1) := by decide +kernel
theorem dX2_readsStatement_95 : decode cX2_readsStatement 95 = .ok (.invokevirtual 99, 3) := by decide +kernel
theorem dX2_readsStatement_98 : decode cX2_readsStatement 98 = .ok (.ifCond .eq 7, 3) := by decide +kernel
theorem dX2_readsStatement_101 : decode cX2_readsStatement 101 = .ok (.iconst 1, 1) := by decide +kernel
theorem dX2_readsStatement_102 : decode cX2_readsStatement 102 = .ok (.goto 4, 3) := by decide +kernel
theorem dX2_readsStatement_105 : decode cX2_readsStatement 105 = .ok (.iconst 0, 1) := by decide +kernel
theorem dX2_readsStatement_106 : decode cX2_readsStatement 106 = .ok (.istore_n 2, 1) := by decide +kernel
theorem dX2_readsStatement_107 : decode cX2_readsStatement 107 = .ok (.goto 106, 3) := by decide +kernel
theorem dX2_readsStatement_110 : decode cX2_readsStatement 110 = .ok (.aload_n 0, 1) := by decide +kernel
theorem dX2_readsStatement_111 : decode cX2_readsStatement 111 = .ok (.iconst 0, 1) := by decide +kernel
theorem dX2_readsStatement_112 : decode cX2_readsStatement 112 = .ok (.iconst 2, 1) := by decide +kernel
theorem dX2_readsStatement_113 : decode cX2_readsStatement 113 = .ok (.invokevirtual 99, 3) := by decide +kernel
theorem dX2_readsStatement_116 : decode cX2_readsStatement 116 = .ok (.ifCond .eq 16, 3) := by decide +kernel
theorem dX2_readsStatement_119 : decode cX2_readsStatement 119 = .ok (.aload_n 0, 1) := by decide +kernel
theorem dX2_readsStatement_120 : decode cX2_readsStatement 120 = .ok (.iconst 1, 1) := by decide +kernel
theorem dX2_readsStatement_121 : decode cX2_readsStatement 121 = .ok (.iconst 1, 1) := by decide +kernel
theorem dX2_readsStatement_122 : decode cX2_readsStatement 122 = .ok (.invokevirtual 99, 3) := by decide +kernel
theorem dX2_readsStatement_125 : decode cX2_readsStatement 125 = .ok (.ifCond .eq 7, 3) := by decide +kernel
theorem dX2_readsStatement_128 : decode cX2_readsStatement 128 = .ok (.iconst 1, 1) := by decide +kernel
theorem dX2_readsStatement_129 : decode cX2_readsStatement 129 = .ok (.goto 4, 3) := by decide +kernel
theorem dX2_readsStatement_132 : decode cX2_readsStatement 132 = .ok (.iconst 0, 1) := by decide +kernel
theorem dX2_readsStatement_133 : decode cX2_readsStatement 133 = .ok (.istore_n 2, 1) := by decide +kernel
theorem dX2_readsStatement_134 : decode cX2_readsStatement 134 = .ok (.goto 79, 3) := by decide +kernel
theorem dX2_readsStatement_137 : decode cX2_readsStatement 137 = .ok (.aload_n 0, 1) := by decide +kernel
theorem dX2_readsStatement_138 : decode cX2_readsStatement 138 = .ok (.iconst 0, 1) := by decide +kernel
theorem dX2_readsStatement_139 : decode cX2_readsStatement 139 = .ok (.iconst 1, 1) := by decide +kernel
theorem dX2_readsStatement_140 : decode cX2_readsStatement 140 = .ok (.invokevirtual 99, 3) := by decide +kernel
theorem dX2_readsStatement_143 : decode cX2_readsStatement 143 = .ok (.ifCond .eq 16, 3) := by decide +kernel
theorem dX2_readsStatement_146 : decode cX2_readsStatement 146 = .ok (.aload_n 0, 1) := by decide +kernel
theorem dX2_readsStatement_147 : decode cX2_readsStatement 147 = .ok (.iconst 1, 1) := by decide +kernel
theorem dX2_readsStatement_148 : decode cX2_readsStatement 148 = .ok (.iconst 1, 1) := by decide +kernel
theorem dX2_readsStatement_149 : decode cX2_readsStatement 149 = .ok (.invokevirtual 99, 3) := by decide +kernel
theorem dX2_readsStatement_152 : decode cX2_readsStatement 152 = .ok (.ifCond .eq 7, 3) := by decide +kernel
theorem dX2_readsStatement_155 : decode cX2_readsStatement 155 = .ok (.iconst 1, 1) := by decide +kernel
theorem dX2_readsStatement_156 : decode cX2_readsStatement 156 = .ok (.goto 4, 3) := by decide +kernel
theorem dX2_readsStatement_159 : decode cX2_readsStatement 159 = .ok (.iconst 0, 1) := by decide +kernel
theorem dX2_readsStatement_160 : decode cX2_readsStatement 160 = .ok (.istore_n 2, 1) := by decide +kernel
theorem dX2_readsStatement_161 : decode cX2_readsStatement 161 = .ok (.goto 52, 3) := by decide +kernel
theorem dX2_readsStatement_164 : decode cX2_readsStatement 164 = .ok (.aload_n 0, 1) := by decide +kernel
theorem dX2_readsStatement_165 : decode cX2_readsStatement 165 = .ok (.iconst 0, 1) := by decide +kernel
theorem dX2_readsStatement_166 : decode cX2_readsStatement 166 = .ok (.iconst 1, 1) := by decide +kernel
theorem dX2_readsStatement_167 : decode cX2_readsStatement 167 = .ok (.invokevirtual 99, 3) := by decide +kernel
theorem dX2_readsStatement_170 : decode cX2_readsStatement 170 = .ok (.ifCond .eq 16, 3) := by decide +kernel
theorem dX2_readsStatement_173 : decode cX2_readsStatement 173 = .ok (.aload_n 0, 1) := by decide +kernel
theorem dX2_readsStatement_174 : decode cX2_readsStatement 174 = .ok (.iconst 1, 1) := by decide +kernel
theorem dX2_readsStatement_175 : decode cX2_readsStatement 175 = .ok (.iconst 2, 1) := by decide +kernel
theorem dX2_readsStatement_176 : decode cX2_readsStatement 176 = .ok (.invokevirtual 99, 3) := by decide +kernel
theorem dX2_readsStatement_179 : decode cX2_readsStatement 179 = .ok (.ifCond .eq 7, 3) := by decide +kernel
theorem dX2_readsStatement_182 : decode cX2_readsStatement 182 = .ok (.iconst 1, 1) := by decide +kernel
theorem dX2_readsStatement_183 : decode cX2_readsStatement 183 = .ok (.goto 4, 3) := by decide +kernel
theorem dX2_readsStatement_186 : decode cX2_readsStatement 186 = .ok (.iconst 0, 1) := by decide +kernel
theorem dX2_readsStatement_187 : decode cX2_readsStatement 187 = .ok (.istore_n 2, 1) := by decide +kernel
theorem dX2_readsStatement_188 : decode cX2_readsStatement 188 = .ok (.goto 25, 3) := by decide +kernel
theorem dX2_readsStatement_191 : decode cX2_readsStatement 191 = .ok (.aload_n 0, 1) := by decide +kernel
theorem dX2_readsStatement_192 : decode cX2_readsStatement 192 = .ok (.iconst 0, 1) := by decide +kernel
theorem dX2_readsStatement_193 : decode cX2_readsStatement 193 = .ok (.iconst 2, 1) := by decide +kernel
theorem dX2_readsStatement_194 : decode cX2_readsStatement 194 = .ok (.invokevirtual 99, 3) := by decide +kernel
theorem dX2_readsStatement_197 : decode cX2_readsStatement 197 = .ok (.istore_n 2, 1) := by decide +kernel
theorem dX2_readsStatement_198 : decode cX2_readsStatement 198 = .ok (.goto 15, 3) := by decide +kernel
theorem dX2_readsStatement_201 : decode cX2_readsStatement 201 = .ok (.aload_n 0, 1) := by decide +kernel
theorem dX2_readsStatement_202 : decode cX2_readsStatement 202 = .ok (.dup, 1) := by decide +kernel
theorem dX2_readsStatement_203 : decode cX2_readsStatement 203 = .ok (.getfield 89, 3) := by decide +kernel
theorem dX2_readsStatement_206 : decode cX2_readsStatement 206 = .ok (.iconst 1, 1) := by decide +kernel
theorem dX2_readsStatement_207 : decode cX2_readsStatement 207 = .ok (.isub, 1) := by decide +kernel
theorem dX2_readsStatement_208 : decode cX2_readsStatement 208 = .ok (.putfield 89, 3) := by decide +kernel
theorem dX2_readsStatement_211 : decode cX2_readsStatement 211 = .ok (.iconst 0, 1) := by decide +kernel
theorem dX2_readsStatement_212 : decode cX2_readsStatement 212 = .ok (.ireturn, 1) := by decide +kernel
theorem dX2_readsStatement_213 : decode cX2_readsStatement 213 = .ok (.iload_n 2, 1) := by decide +kernel
theorem dX2_readsStatement_214 : decode cX2_readsStatement 214 = .ok (.ifCond .eq 12, 3) := by decide +kernel
theorem dX2_readsStatement_217 : decode cX2_readsStatement 217 = .ok (.aload_n 0, 1) := by decide +kernel
theorem dX2_readsStatement_218 : decode cX2_readsStatement 218 = .ok (.invokevirtual 92, 3) := by decide +kernel
theorem dX2_readsStatement_221 : decode cX2_readsStatement 221 = .ok (.bipush 59, 2) := by decide +kernel
theorem dX2_readsStatement_223 : decode cX2_readsStatement 223 = .ok (.if_icmp .eq 5, 3) := by decide +kernel
theorem dX2_readsStatement_226 : decode cX2_readsStatement 226 = .ok (.iconst 0, 1) := by decide +kernel
theorem dX2_readsStatement_227 : decode cX2_readsStatement 227 = .ok (.ireturn, 1) := by decide +kernel
theorem dX2_readsStatement_228 : decode cX2_readsStatement 228 = .ok (.aload_n 0, 1) := by decide +kernel
theorem dX2_readsStatement_229 : decode cX2_readsStatement 229 = .ok (.dup, 1) := by decide +kernel
theorem dX2_readsStatement_230 : decode cX2_readsStatement 230 = .ok (.getfield 89, 3) := by decide +kernel
theorem dX2_readsStatement_233 : decode cX2_readsStatement 233 = .ok (.iconst 1, 1) := by decide +kernel
theorem dX2_readsStatement_234 : decode cX2_readsStatement 234 = .ok (.iadd, 1) := by decide +kernel
theorem dX2_readsStatement_235 : decode cX2_readsStatement 235 = .ok (.putfield 89, 3) := by decide +kernel
theorem dX2_readsStatement_238 : decode cX2_readsStatement 238 = .ok (.iconst 1, 1) := by decide +kernel
theorem dX2_readsStatement_239 : decode cX2_readsStatement 239 = .ok (.ireturn, 1) := by decide +kernel
set_option maxRecDepth 20000 in
theorem ggX2_adds_X2_of : GoodIn wsX2_adds wsX2_of := goodIn_r _ [5] (by decide +kernel) (by decide +kernel)
set_option maxRecDepth 20000 in
theorem gX2_adds_X2_of : GoodIn wsX2_adds (va_wsS RX2 47 yX2_of wsX2_of) := goodIn_app (goodIn_of _ (by decide +kernel)) ggX2_adds_X2_of
theorem dX2_adds_0 : decode cX2_adds 0 = .ok (.aload_n 0, 1) := by decide +kernel
theorem dX2_adds_1 : decode cX2_adds 1 = .ok (.getfield 9, 3) := by decide +kernel
theorem dX2_adds_4 : decode cX2_adds 4 = .ok (.aload_n 0, 1) := by decide +kernel
theorem dX2_adds_5 : decode cX2_adds 5 = .ok (.getfield 9, 3) := by decide +kernel
theorem dX2_adds_8 : decode cX2_adds 8 = .ok (.iconst 0, 1) := by decide +kernel
theorem dX2_adds_9 : decode cX2_adds 9 = .ok (.iaload, 1) := by decide +kernel
theorem dX2_adds_10 : decode cX2_adds 10 = .ok (.iconst 0, 1) := by decide +kernel
theorem dX2_adds_11 : decode cX2_adds 11 = .ok (.invokestatic 47, 3) := by decide +kernel
theorem dX2_adds_14 : decode cX2_adds 14 = .ok (.iload_n 1, 1) := by decide +kernel
theorem dX2_adds_15 : decode cX2_adds 15 = .ok (.iastore, 1) := by decide +kernel
theorem dX2_adds_16 : decode cX2_adds 16 = .ok (.aload_n 0, 1) := by decide +kernel
theorem dX2_adds_17 : decode cX2_adds 17 = .ok (.getfield 9, 3) := by decide +kernel
theorem dX2_adds_20 : decode cX2_adds 20 = .ok (.aload_n 0, 1) := by decide +kernel
theorem dX2_adds_21 : decode cX2_adds 21 = .ok (.getfield 9, 3) := by decide +kernel
theorem dX2_adds_24 : decode cX2_adds 24 = .ok (.iconst 0, 1) := by decide +kernel
theorem dX2_adds_25 : decode cX2_adds 25 = .ok (.iaload, 1) := by decide +kernel
theorem dX2_adds_26 : decode cX2_adds 26 = .ok (.iconst 1, 1) := by decide +kernel
theorem dX2_adds_27 : decode cX2_adds 27 = .ok (.invokestatic 47, 3) := by decide +kernel
theorem dX2_adds_30 : decode cX2_adds 30 = .ok (.iload_n 2, 1) := by decide +kernel
theorem dX2_adds_31 : decode cX2_adds 31 = .ok (.iastore, 1) := by decide +kernel
theorem dX2_adds_32 : decode cX2_adds 32 = .ok (.aload_n 0, 1) := by decide +kernel
theorem dX2_adds_33 : decode cX2_adds 33 = .ok (.getfield 9, 3) := by decide +kernel
theorem dX2_adds_36 : decode cX2_adds 36 = .ok (.aload_n 0, 1) := by decide +kernel
theorem dX2_adds_37 : decode cX2_adds 37 = .ok (.getfield 9, 3) := by decide +kernel
theorem dX2_adds_40 : decode cX2_adds 40 = .ok (.iconst 0, 1) := by decide +kernel
theorem dX2_adds_41 : decode cX2_adds 41 = .ok (.iaload, 1) := by decide +kernel
theorem dX2_adds_42 : decode cX2_adds 42 = .ok (.iconst 2, 1) := by decide +kernel
theorem dX2_adds_43 : decode cX2_adds 43 = .ok (.invokestatic 47, 3) := by decide +kernel
theorem dX2_adds_46 : decode cX2_adds 46 = .ok (.iconst 0, 1) := by decide +kernel
theorem dX2_adds_47 : decode cX2_adds 47 = .ok (.iastore, 1) := by decide +kernel
theorem dX2_adds_48 : decode cX2_adds 48 = .ok (.aload_n 0, 1) := by decide +kernel
theorem dX2_adds_49 : decode cX2_adds 49 = .ok (.getfield 9, 3) := by decide +kernel
theorem dX2_adds_52 : decode cX2_adds 52 = .ok (.iconst 0, 1) := by decide +kernel
theorem dX2_adds_53 : decode cX2_adds 53 = .ok (.dup2, 1) := by decide +kernel
theorem dX2_adds_54 : decode cX2_adds 54 = .ok (.iaload, 1) := by decide +kernel
theorem dX2_adds_55 : decode cX2_adds 55 = .ok (.iconst 1, 1) := by decide +kernel
theorem dX2_adds_56 : decode cX2_adds 56 = .ok (.iadd, 1) := by decide +kernel
theorem dX2_adds_57 : decode cX2_adds 57 = .ok (.iastore, 1) := by decide +kernel
theorem dX2_adds_58 : decode cX2_adds 58 = .ok (.return_, 1) := by decide +kernel
set_option maxRecDepth 20000 in
theorem ggX2_isDone_X2_isNode : GoodIn wsX2_isDone wsX2_isNode := goodIn_r _ [6, 7, 8, 5, 9] (by decide +kernel) (by decide +kernel)
set_option maxRecDepth 20000 in
theorem gX2_isDone_X2_isNode : GoodIn wsX2_isDone (va_wsS RX2 106 yX2_isNode wsX2_isNode) := goodIn_app (goodIn_of _ (by decide +kernel)) ggX2_isDone_X2_isNode
set_option maxRecDepth 20000 in
theorem ggX2_isDone_X2_isWay : GoodIn wsX2_isDone wsX2_isWay := goodIn_r _ [12, 7, 8, 5, 9] (by decide +kernel) (by decide +kernel)
set_option maxRecDepth 20000 in
theorem gX2_isDone_X2_isWay : GoodIn wsX2_isDone (va_wsS RX2 110 yX2_isWay wsX2_isWay) := goodIn_app (goodIn_of _ (by decide +kernel)) ggX2_isDone_X2_isWay
set_option maxRecDepth 20000 in
theorem ggX2_isDone_X2_adds : GoodIn wsX2_isDone wsX2_adds := goodIn_r _ [16, 2, 17, 18, 5, 19, 51, 52, 53, 54, 55, 56, 57, 58, 59, 60, 61, 62, 63, 64] (by decide +kernel) (by decide +kernel)
set_option maxRecDepth 20000 in
theorem gX2_isDone_X2_adds : GoodIn wsX2_isDone (wsV RX2 113 RX2 yX2_adds wsX2_adds) := goodIn_app (goodIn_of _ (by decide +kernel)) ggX2_isDone_X2_adds
set_option maxRecDepth 20000 in
theorem ggX2_isDone_X2_isPerson : GoodIn wsX2_isDone wsX2_isPerson := goodIn_r _ [23, 2, 7, 8, 5, 9, 51, 52, 53, 54, 55, 56, 57, 58, 59, 60, 61, 62, 63, 64] (by decide +kernel) (by decide +kernel)
set_option maxRecDepth 20000 in
theorem gX2_isDone_X2_isPerson : GoodIn wsX2_isDone (wsV RX2 117 RX2 yX2_isPerson wsX2_isPerson) := goodIn_app (goodIn_of _ (by decide +kernel)) ggX2_isDone_X2_isPerson
set_option maxRecDepth 20000 in
theorem ggX2_isDone_X2_of : GoodIn wsX2_isDone wsX2_of := goodIn_r _ [19] (by decide +kernel) (by decide +kernel)
set_option maxRecDepth 20000 in
theorem gX2_isDone_X2_of : GoodIn wsX2_isDone (va_wsS RX2 47 yX2_of wsX2_of) := goodIn_app (goodIn_of _ (by decide +kernel)) ggX2_isDone_X2_of
set_option maxRecDepth 20000 in
theorem ggX2_isDone_X2_isIn : GoodIn wsX2_isDone wsX2_isIn := goodIn_r _ [9] (by decide +kernel) (by decide +kernel)
set_option maxRecDepth 20000 in
theorem gX2_isDone_X2_isIn : GoodIn wsX2_isDone (va_wsS RX2 43 yX2_isIn wsX2_isIn) := goodIn_app (goodIn_of _ (by decide +kernel)) ggX2_isDone_X2_isIn
set_option maxRecDepth 20000 in
theorem ggX2_isDone_X2_stepsOn : GoodIn wsX2_isDone wsX2_stepsOn := goodIn_r _ [26, 27, 28, 5, 29, 30, 31, 32, 33, 34, 35, 17, 18, 19, 36, 37, 38, 39, 40, 41, 42, 43, 44, 45, 46, 47, 48, 49, 50] (by decide +kernel) (by decide +kernel)
set_option maxRecDepth 20000 in
theorem gX2_isDone_X2_stepsOn : GoodIn wsX2_isDone (va_wsS RX2 120 yX2_stepsOn wsX2_stepsOn) := goodIn_app (goodIn_of _ (by decide +kernel)) ggX2_isDone_X2_stepsOn
theorem dX2_isDone_0 : decode cX2_isDone 0 = .ok (.aload_n 0, 1) := by decide +kernel
theorem dX2_isDone_1 : decode cX2_isDone 1 = .ok (.getfield 31, 3) := by decide +kernel
theorem dX2_isDone_4 : decode cX2_isDone 4 = .ok (.iconst 0, 1) := by decide +kernel
theorem dX2_isDone_5 : decode cX2_isDone 5 = .ok (.iaload, 1) := by decide +kernel
theorem dX2_isDone_6 : decode cX2_isDone 6 = .ok (.istore_n 2, 1) := by decide +kernel
theorem dX2_isDone_7 : decode cX2_isDone 7 = .ok (.aload_n 0, 1) := by decide +kernel
theorem dX2_isDone_8 : decode cX2_isDone 8 = .ok (.getfield 31, 3) := by decide +kernel
theorem dX2_isDone_11 : decode cX2_isDone 11 = .ok (.iconst 1, 1) := by decide +kernel
theorem dX2_isDone_12 : decode cX2_isDone 12 = .ok (.iaload, 1) := by decide +kernel
theorem dX2_isDone_13 : decode cX2_isDone 13 = .ok (.istore_n 3, 1) := by decide +kernel
theorem dX2_isDone_14 : decode cX2_isDone 14 = .ok (.iload_n 1, 1) := by decide +kernel
theorem dX2_isDone_15 : decode cX2_isDone 15 = .ok (.lookupswitch 199 #[(97, 169), (104, 139), (110, 49), (112, 105), (119, 84)], 49) := by decide +kernel
theorem dX2_isDone_64 : decode cX2_isDone 64 = .ok (.iload_n 2, 1) := by decide +kernel
theorem dX2_isDone_65 : decode cX2_isDone 65 = .ok (.invokestatic 106, 3) := by decide +kernel
theorem dX2_isDone_68 : decode cX2_isDone 68 = .ok (.ifCond .ne 5, 3) := by decide +kernel
theorem dX2_isDone_71 : decode cX2_isDone 71 = .ok (.iconst 0, 1) := by decide +kernel
theorem dX2_isDone_72 : decode cX2_isDone 72 = .ok (.ireturn, 1) := by decide +kernel
theorem dX2_isDone_73 : decode cX2_isDone 73 = .ok (.aload_n 0, 1) := by decide +kernel
theorem dX2_isDone_74 : decode cX2_isDone 74 = .ok (.getfield 9, 3) := by decide +kernel
theorem dX2_isDone_77 : decode cX2_isDone 77 = .ok (.iconst 3, 1) := by decide +kernel
theorem dX2_isDone_78 : decode cX2_isDone 78 = .ok (.iload_n 2, 1) := by decide +kernel
theorem dX2_isDone_79 : decode cX2_isDone 79 = .ok (.iadd, 1) := by decide +kernel
theorem dX2_isDone_80 : decode cX2_isDone 80 = .ok (.iload_n 3, 1) := by decide +kernel
theorem dX2_isDone_81 : decode cX2_isDone 81 = .ok (.iastore, 1) := by decide +kernel
theorem dX2_isDone_82 : decode cX2_isDone 82 = .ok (.aload_n 0, 1) := by decide +kernel
theorem dX2_isDone_83 : decode cX2_isDone 83 = .ok (.getfield 9, 3) := by decide +kernel
theorem dX2_isDone_86 : decode cX2_isDone 86 = .ok (.bipush 33, 2) := by decide +kernel
theorem dX2_isDone_88 : decode cX2_isDone 88 = .ok (.iload_n 2, 1) := by decide +kernel
theorem dX2_isDone_89 : decode cX2_isDone 89 = .ok (.iadd, 1) := by decide +kernel
theorem dX2_isDone_90 : decode cX2_isDone 90 = .ok (.aload_n 0, 1) := by decide +kernel
theorem dX2_isDone_91 : decode cX2_isDone 91 = .ok (.getfield 31, 3) := by decide +kernel
theorem dX2_isDone_94 : decode cX2_isDone 94 = .ok (.iconst 2, 1) := by decide +kernel
theorem dX2_isDone_95 : decode cX2_isDone 95 = .ok (.iaload, 1) := by decide +kernel
theorem dX2_isDone_96 : decode cX2_isDone 96 = .ok (.iastore, 1) := by decide +kernel
theorem dX2_isDone_97 : decode cX2_isDone 97 = .ok (.iconst 1, 1) := by decide +kernel
theorem dX2_isDone_98 : decode cX2_isDone 98 = .ok (.ireturn, 1) := by decide +kernel
theorem dX2_isDone_99 : decode cX2_isDone 99 = .ok (.iload_n 2, 1) := by decide +kernel
theorem dX2_isDone_100 : decode cX2_isDone 100 = .ok (.invokestatic 106, 3) := by decide +kernel
theorem dX2_isDone_103 : decode cX2_isDone 103 = .ok (.ifCond .ne 5, 3) := by decide +kernel
theorem dX2_isDone_106 : decode cX2_isDone 106 = .ok (.iconst 0, 1) := by decide +kernel
theorem dX2_isDone_107 : decode cX2_isDone 107 = .ok (.ireturn, 1) := by decide +kernel
theorem dX2_isDone_108 : decode cX2_isDone 108 = .ok (.aload_n 0, 1) := by decide +kernel
theorem dX2_isDone_109 : decode cX2_isDone 109 = .ok (.getfield 9, 3) := by decide +kernel
theorem dX2_isDone_112 : decode cX2_isDone 112 = .ok (.bipush 63, 2) := by decide +kernel
theorem dX2_isDone_114 : decode cX2_isDone 114 = .ok (.iload_n 2, 1) := by decide +kernel
theorem dX2_isDone_115 : decode cX2_isDone 115 = .ok (.iadd, 1) := by decide +kernel
theorem dX2_isDone_116 : decode cX2_isDone 116 = .ok (.iload_n 3, 1) := by decide +kernel
theorem dX2_isDone_117 : decode cX2_isDone 117 = .ok (.iastore, 1) := by decide +kernel
theorem dX2_isDone_118 : decode cX2_isDone 118 = .ok (.iconst 1, 1) := by decide +kernel
theorem dX2_isDone_119 : decode cX2_isDone 119 = .ok (.ireturn, 1) := by decide +kernel
theorem dX2_isDone_120 : decode cX2_isDone 120 = .ok (.iload_n 2, 1) := by decide +kernel
theorem dX2_isDone_121 : decode cX2_isDone 121 = .ok (.invokestatic 106, 3) := by decide +kernel
theorem dX2_isDone_124 : decode cX2_isDone 124 = .ok (.ifCond .eq 20, 3) := by decide +kernel
theorem dX2_isDone_127 : decode cX2_isDone 127 = .ok (.iload_n 3, 1) := by decide +kernel
theorem dX2_isDone_128 : decode cX2_isDone 128 = .ok (.invokestatic 110, 3) := by decide +kernel
theorem dX2_isDone_131 : decode cX2_isDone 131 = .ok (.ifCond .eq 13, 3) := by decide +kernel
theorem dX2_isDone_134 : decode cX2_isDone 134 = .ok (.aload_n 0, 1) := by decide +kernel
theorem dX2_isDone_135 : decode cX2_isDone 135 = .ok (.getfield 9, 3) := by decide +kernel
theorem dX2_isDone_138 : decode cX2_isDone 138 = .ok (.iconst 0, 1) := by decide +kernel
theorem dX2_isDone_139 : decode cX2_isDone 139 = .ok (.iaload, 1) := by decide +kernel
theorem dX2_isDone_140 : decode cX2_isDone 140 = .ok (.iconst 4, 1) := by decide +kernel
theorem dX2_isDone_141 : decode cX2_isDone 141 = .ok (.if_icmp .ne 5, 3) := by decide +kernel
theorem dX2_isDone_144 : decode cX2_isDone 144 = .ok (.iconst 0, 1) := by decide +kernel
theorem dX2_isDone_145 : decode cX2_isDone 145 = .ok (.ireturn, 1) := by decide +kernel
theorem dX2_isDone_146 : decode cX2_isDone 146 = .ok (.aload_n 0, 1) := by decide +kernel
theorem dX2_isDone_147 : decode cX2_isDone 147 = .ok (.iload_n 2, 1) := by decide +kernel
theorem dX2_isDone_148 : decode cX2_isDone 148 = .ok (.iload_n 3, 1) := by decide +kernel
theorem dX2_isDone_149 : decode cX2_isDone 149 = .ok (.invokevirtual 113, 3) := by decide +kernel
theorem dX2_isDone_152 : decode cX2_isDone 152 = .ok (.iconst 1, 1) := by decide +kernel
theorem dX2_isDone_153 : decode cX2_isDone 153 = .ok (.ireturn, 1) := by decide +kernel
theorem dX2_isDone_154 : decode cX2_isDone 154 = .ok (.aload_n 0, 1) := by decide +kernel
theorem dX2_isDone_155 : decode cX2_isDone 155 = .ok (.iload_n 2, 1) := by decide +kernel
theorem dX2_isDone_156 : decode cX2_isDone 156 = .ok (.invokevirtual 117, 3) := by decide +kernel
theorem dX2_isDone_159 : decode cX2_isDone 159 = .ok (.ifCond .eq 10, 3) := by decide +kernel
theorem dX2_isDone_162 : decode cX2_isDone 162 = .ok (.iload_n 3, 1) := by decide +kernel
theorem dX2_isDone_163 : decode cX2_isDone 163 = .ok (.invokestatic 110, 3) := by decide +kernel
theorem dX2_isDone_166 : decode cX2_isDone 166 = .ok (.ifCond .ne 5, 3) := by decide +kernel
theorem dX2_isDone_169 : decode cX2_isDone 169 = .ok (.iconst 0, 1) := by decide +kernel
theorem dX2_isDone_170 : decode cX2_isDone 170 = .ok (.ireturn, 1) := by decide +kernel
theorem dX2_isDone_171 : decode cX2_isDone 171 = .ok (.aload_n 0, 1) := by decide +kernel
theorem dX2_isDone_172 : decode cX2_isDone 172 = .ok (.getfield 9, 3) := by decide +kernel
theorem dX2_isDone_175 : decode cX2_isDone 175 = .ok (.iload_n 2, 1) := by decide +kernel
theorem dX2_isDone_176 : decode cX2_isDone 176 = .ok (.iconst 1, 1) := by decide +kernel
theorem dX2_isDone_177 : decode cX2_isDone 177 = .ok (.invokestatic 47, 3) := by decide +kernel
theorem dX2_isDone_180 : decode cX2_isDone 180 = .ok (.iload_n 3, 1) := by decide +kernel
theorem dX2_isDone_181 : decode cX2_isDone 181 = .ok (.iastore, 1) := by decide +kernel
theorem dX2_isDone_182 : decode cX2_isDone 182 = .ok (.iconst 1, 1) := by decide +kernel
theorem dX2_isDone_183 : decode cX2_isDone 183 = .ok (.ireturn, 1) := by decide +kernel
theorem dX2_isDone_184 : decode cX2_isDone 184 = .ok (.aload_n 0, 1) := by decide +kernel
theorem dX2_isDone_185 : decode cX2_isDone 185 = .ok (.iload_n 2, 1) := by decide +kernel
theorem dX2_isDone_186 : decode cX2_isDone 186 = .ok (.invokevirtual 117, 3) := by decide +kernel
theorem dX2_isDone_189 : decode cX2_isDone 189 = .ok (.ifCond .eq 10, 3) := by decide +kernel
theorem dX2_isDone_192 : decode cX2_isDone 192 = .ok (.iload_n 3, 1) := by decide +kernel
theorem dX2_isDone_193 : decode cX2_isDone 193 = .ok (.invokestatic 106, 3) := by decide +kernel
theorem dX2_isDone_196 : decode cX2_isDone 196 = .ok (.ifCond .ne 5, 3) := by decide +kernel
theorem dX2_isDone_199 : decode cX2_isDone 199 = .ok (.iconst 0, 1) := by decide +kernel
theorem dX2_isDone_200 : decode cX2_isDone 200 = .ok (.ireturn, 1) := by decide +kernel
theorem dX2_isDone_201 : decode cX2_isDone 201 = .ok (.aload_n 0, 1) := by decide +kernel
theorem dX2_isDone_202 : decode cX2_isDone 202 = .ok (.getfield 9, 3) := by decide +kernel
theorem dX2_isDone_205 : decode cX2_isDone 205 = .ok (.iload_n 2, 1) := by decide +kernel
theorem dX2_isDone_206 : decode cX2_isDone 206 = .ok (.iconst 0, 1) := by decide +kernel
theorem dX2_isDone_207 : decode cX2_isDone 207 = .ok (.invokestatic 47, 3) := by decide +kernel
theorem dX2_isDone_210 : decode cX2_isDone 210 = .ok (.iload_n 3, 1) := by decide +kernel
theorem dX2_isDone_211 : decode cX2_isDone 211 = .ok (.iastore, 1) := by decide +kernel
theorem dX2_isDone_212 : decode cX2_isDone 212 = .ok (.iconst 1, 1) := by decide +kernel
theorem dX2_isDone_213 : decode cX2_isDone 213 = .ok (.ireturn, 1) := by decide +kernel
theorem dX2_isDone_214 : decode cX2_isDone 214 = .ok (.iload_n 2, 1) := by decide +kernel
theorem dX2_isDone_215 : decode cX2_isDone 215 = .ok (.iconst 1, 1) := by decide +kernel
theorem dX2_isDone_216 : decode cX2_isDone 216 = .ok (.bipush 60, 2) := by decide +kernel
theorem dX2_isDone_218 : decode cX2_isDone 218 = .ok (.invokestatic 43, 3) := by decide +kernel
theorem dX2_isDone_221 : decode cX2_isDone 221 = .ok (.ifCond .eq 17, 3) := by decide +kernel
theorem dX2_isDone_224 : decode cX2_isDone 224 = .ok (.aload_n 0, 1) := by decide +kernel
theorem dX2_isDone_225 : decode cX2_isDone 225 = .ok (.getfield 9, 3) := by decide +kernel
theorem dX2_isDone_228 : decode cX2_isDone 228 = .ok (.iconst 1, 1) := by decide +kernel
theorem dX2_isDone_229 : decode cX2_isDone 229 = .ok (.iaload, 1) := by decide +kernel
theorem dX2_isDone_230 : decode cX2_isDone 230 = .ok (.iload_n 2, 1) := by decide +kernel
theorem dX2_isDone_231 : decode cX2_isDone 231 = .ok (.iadd, 1) := by decide +kernel
theorem dX2_isDone_232 : decode cX2_isDone 232 = .ok (.sipush 999, 3) := by decide +kernel
theorem dX2_isDone_235 : decode cX2_isDone 235 = .ok (.if_icmp .le 5, 3) := by decide +kernel
theorem dX2_isDone_238 : decode cX2_isDone 238 = .ok (.iconst 0, 1) := by decide +kernel
theorem dX2_isDone_239 : decode cX2_isDone 239 = .ok (.ireturn, 1) := by decide +kernel
theorem dX2_isDone_240 : decode cX2_isDone 240 = .ok (.aload_n 0, 1) := by decide +kernel
theorem dX2_isDone_241 : decode cX2_isDone 241 = .ok (.getfield 9, 3) := by decide +kernel
theorem dX2_isDone_244 : decode cX2_isDone 244 = .ok (.iload_n 2, 1) := by decide +kernel
theorem dX2_isDone_245 : decode cX2_isDone 245 = .ok (.invokestatic 120, 3) := by decide +kernel
theorem dX2_isDone_248 : decode cX2_isDone 248 = .ok (.iconst 1, 1) := by decide +kernel
theorem dX2_isDone_249 : decode cX2_isDone 249 = .ok (.ireturn, 1) := by decide +kernel
set_option maxRecDepth 20000 in
theorem ggX2_wall_X2_readsStatement : GoodIn wsX2_wall wsX2_readsStatement := goodIn_r _ [9, 1, 10, 11, 12, 8, 13, 2, 14, 15, 16, 17, 18, 19, 20, 21, 22, 23, 24, 25, 26, 27, 28, 29, 81, 82, 83, 84, 85, 86, 87, 88, 89, 90, 91, 92, 93, 94] (by decide +kernel) (by decide +kernel)
set_option maxRecDepth 20000 in
theorem gX2_wall_X2_readsStatement : GoodIn wsX2_wall (wsV RX2 123 RX2 yX2_readsStatement wsX2_readsStatement) := goodIn_app (goodIn_of _ (by decide +kernel)) ggX2_wall_X2_readsStatement
set_option maxRecDepth 20000 in
theorem ggX2_wall_X2_copies : GoodIn wsX2_wall wsX2_copies := goodIn_r _ [32] (by decide +kernel) (by decide +kernel)
set_option maxRecDepth 20000 in
theorem gX2_wall_X2_copies : GoodIn wsX2_wall (va_wsS RX2 126 yX2_copies wsX2_copies) := goodIn_app (goodIn_of _ (by decide +kernel)) ggX2_wall_X2_copies
set_option maxRecDepth 20000 in
theorem ggX2_wall_X2_here : GoodIn wsX2_wall wsX2_here := goodIn_r _ [13, 1, 2, 14, 81, 82, 83, 84, 85, 86, 87, 88, 89, 90, 91, 92, 93, 94] (by decide +kernel) (by decide +kernel)
set_option maxRecDepth 20000 in
theorem gX2_wall_X2_here : GoodIn wsX2_wall (wsV RX2 92 RX2 yX2_here wsX2_here) := goodIn_app (goodIn_of _ (by decide +kernel)) ggX2_wall_X2_here
set_option maxRecDepth 20000 in
theorem ggX2_wall_X2_isDone : GoodIn wsX2_wall wsX2_isDone := goodIn_r _ [36, 19, 3, 37, 38, 8, 39, 20, 21, 22, 40, 41, 42, 43, 44, 45, 46, 47, 48, 49, 50, 51, 52, 53, 54, 55, 56, 57, 58, 59, 60, 61, 62, 63, 64, 65, 66, 67, 68, 69, 70, 71, 72, 73, 74, 75, 76, 77, 78, 79, 80, 81, 82, 83, 84, 85, 86, 87, 88, 89, 90, 91, 92, 93, 94] (by decide +kernel) (by decide +kernel)
set_option maxRecDepth 20000 in
theorem gX2_wall_X2_isDone : GoodIn wsX2_wall (wsV RX2 130 RX2 yX2_isDone wsX2_isDone) := goodIn_app (goodIn_of _ (by decide +kernel)) ggX2_wall_X2_isDone
theorem dX2_wall_0 : decode cX2_wall 0 = .ok (.aload_n 0, 1) := by decide +kernel
theorem dX2_wall_1 : decode cX2_wall 1 = .ok (.iconst 0, 1) := by decide +kernel
theorem dX2_wall_2 : decode cX2_wall 2 = .ok (.putfield 89, 3) := by decide +kernel
theorem dX2_wall_5 : decode cX2_wall 5 = .ok (.iconst 0, 1) := by decide +kernel
theorem dX2_wall_6 : decode cX2_wall 6 = .ok (.istore_n 1, 1) := by decide +kernel
theorem dX2_wall_7 : decode cX2_wall 7 = .ok (.bipush (-9), 2) := by decide +kernel
theorem dX2_wall_9 : decode cX2_wall 9 = .ok (.istore_n 2, 1) := by decide +kernel
theorem dX2_wall_10 : decode cX2_wall 10 = .ok (.aload_n 0, 1) := by decide +kernel
theorem dX2_wall_11 : decode cX2_wall 11 = .ok (.invokevirtual 123, 3) := by decide +kernel
theorem dX2_wall_14 : decode cX2_wall 14 = .ok (.ifCond .ne 12, 3) := by decide +kernel
theorem dX2_wall_17 : decode cX2_wall 17 = .ok (.sipush (-1000), 3) := by decide +kernel
theorem dX2_wall_20 : decode cX2_wall 20 = .ok (.aload_n 0, 1) := by decide +kernel
theorem dX2_wall_21 : decode cX2_wall 21 = .ok (.getfield 89, 3) := by decide +kernel
theorem dX2_wall_24 : decode cX2_wall 24 = .ok (.isub, 1) := by decide +kernel
theorem dX2_wall_25 : decode cX2_wall 25 = .ok (.istore_n 2, 1) := by decide +kernel
theorem dX2_wall_26 : decode cX2_wall 26 = .ok (.iinc 1 1, 3) := by decide +kernel
theorem dX2_wall_29 : decode cX2_wall 29 = .ok (.iload_n 2, 1) := by decide +kernel
theorem dX2_wall_30 : decode cX2_wall 30 = .ok (.bipush (-9), 2) := by decide +kernel
theorem dX2_wall_32 : decode cX2_wall 32 = .ok (.if_icmp .ne 14, 3) := by decide +kernel
theorem dX2_wall_35 : decode cX2_wall 35 = .ok (.aload_n 0, 1) := by decide +kernel
theorem dX2_wall_36 : decode cX2_wall 36 = .ok (.getfield 89, 3) := by decide +kernel
theorem dX2_wall_39 : decode cX2_wall 39 = .ok (.aload_n 0, 1) := by decide +kernel
theorem dX2_wall_40 : decode cX2_wall 40 = .ok (.getfield 85, 3) := by decide +kernel
theorem dX2_wall_43 : decode cX2_wall 43 = .ok (.if_icmp .lt (-33), 3) := by decide +kernel
theorem dX2_wall_46 : decode cX2_wall 46 = .ok (.aload_n 0, 1) := by decide +kernel
theorem dX2_wall_47 : decode cX2_wall 47 = .ok (.getfield 9, 3) := by decide +kernel
theorem dX2_wall_50 : decode cX2_wall 50 = .ok (.aload_n 0, 1) := by decide +kernel
theorem dX2_wall_51 : decode cX2_wall 51 = .ok (.getfield 19, 3) := by decide +kernel
theorem dX2_wall_54 : decode cX2_wall 54 = .ok (.invokestatic 126, 3) := by decide +kernel
theorem dX2_wall_57 : decode cX2_wall 57 = .ok (.aload_n 0, 1) := by decide +kernel
theorem dX2_wall_58 : decode cX2_wall 58 = .ok (.iconst 0, 1) := by decide +kernel
theorem dX2_wall_59 : decode cX2_wall 59 = .ok (.putfield 89, 3) := by decide +kernel
theorem dX2_wall_62 : decode cX2_wall 62 = .ok (.iload_n 2, 1) := by decide +kernel
theorem dX2_wall_63 : decode cX2_wall 63 = .ok (.bipush (-9), 2) := by decide +kernel
theorem dX2_wall_65 : decode cX2_wall 65 = .ok (.if_icmp .ne 63, 3) := by decide +kernel
theorem dX2_wall_68 : decode cX2_wall 68 = .ok (.aload_n 0, 1) := by decide +kernel
theorem dX2_wall_69 : decode cX2_wall 69 = .ok (.getfield 89, 3) := by decide +kernel
theorem dX2_wall_72 : decode cX2_wall 72 = .ok (.aload_n 0, 1) := by decide +kernel
theorem dX2_wall_73 : decode cX2_wall 73 = .ok (.getfield 85, 3) := by decide +kernel
theorem dX2_wall_76 : decode cX2_wall 76 = .ok (.if_icmp .ge 52, 3) := by decide +kernel
theorem dX2_wall_79 : decode cX2_wall 79 = .ok (.aload_n 0, 1) := by decide +kernel
theorem dX2_wall_80 : decode cX2_wall 80 = .ok (.getfield 89, 3) := by decide +kernel
theorem dX2_wall_83 : decode cX2_wall 83 = .ok (.istore_n 3, 1) := by decide +kernel
theorem dX2_wall_84 : decode cX2_wall 84 = .ok (.aload_n 0, 1) := by decide +kernel
theorem dX2_wall_85 : decode cX2_wall 85 = .ok (.invokevirtual 92, 3) := by decide +kernel
theorem dX2_wall_88 : decode cX2_wall 88 = .ok (.istore 4, 2) := by decide +kernel
theorem dX2_wall_90 : decode cX2_wall 90 = .ok (.aload_n 0, 1) := by decide +kernel
theorem dX2_wall_91 : decode cX2_wall 91 = .ok (.invokevirtual 123, 3) := by decide +kernel
theorem dX2_wall_94 : decode cX2_wall 94 = .ok (.istore 5, 2) := by decide +kernel
theorem dX2_wall_96 : decode cX2_wall 96 = .ok (.aload_n 0, 1) := by decide +kernel
theorem dX2_wall_97 : decode cX2_wall 97 = .ok (.iload 4, 2) := by decide +kernel
theorem dX2_wall_99 : decode cX2_wall 99 = .ok (.invokevirtual 130, 3) := by decide +kernel
theorem dX2_wall_102 : decode cX2_wall 102 = .ok (.ifCond .eq 6, 3) := by decide +kernel
theorem dX2_wall_105 : decode cX2_wall 105 = .ok (.goto (-43), 3) := by decide +kernel
theorem dX2_wall_108 : decode cX2_wall 108 = .ok (.sipush (-2000), 3) := by decide +kernel
theorem dX2_wall_111 : decode cX2_wall 111 = .ok (.iload_n 3, 1) := by decide +kernel
theorem dX2_wall_112 : decode cX2_wall 112 = .ok (.isub, 1) := by decide +kernel
theorem dX2_wall_113 : decode cX2_wall 113 = .ok (.istore_n 2, 1) := by decide +kernel
theorem dX2_wall_114 : decode cX2_wall 114 = .ok (.aload_n 0, 1) := by decide +kernel
theorem dX2_wall_115 : decode cX2_wall 115 = .ok (.getfield 19, 3) := by decide +kernel
theorem dX2_wall_118 : decode cX2_wall 118 = .ok (.aload_n 0, 1) := by decide +kernel
theorem dX2_wall_119 : decode cX2_wall 119 = .ok (.getfield 9, 3) := by decide +kernel
theorem dX2_wall_122 : decode cX2_wall 122 = .ok (.invokestatic 126, 3) := by decide +kernel
theorem dX2_wall_125 : decode cX2_wall 125 = .ok (.goto (-63), 3) := by decide +kernel
theorem dX2_wall_128 : decode cX2_wall 128 = .ok (.aload_n 0, 1) := by decide +kernel
theorem dX2_wall_129 : decode cX2_wall 129 = .ok (.iconst 0, 1) := by decide +kernel
theorem dX2_wall_130 : decode cX2_wall 130 = .ok (.putfield 85, 3) := by decide +kernel
theorem dX2_wall_133 : decode cX2_wall 133 = .ok (.iload_n 2, 1) := by decide +kernel
theorem dX2_wall_134 : decode cX2_wall 134 = .ok (.bipush (-9), 2) := by decide +kernel
theorem dX2_wall_136 : decode cX2_wall 136 = .ok (.if_icmp .ne 7, 3) := by decide +kernel
theorem dX2_wall_139 : decode cX2_wall 139 = .ok (.iload_n 1, 1) := by decide +kernel
theorem dX2_wall_140 : decode cX2_wall 140 = .ok (.goto 4, 3) := by decide +kernel
theorem dX2_wall_143 : decode cX2_wall 143 = .ok (.iload_n 2, 1) := by decide +kernel
theorem dX2_wall_144 : decode cX2_wall 144 = .ok (.ireturn, 1) := by decide +kernel
set_option maxRecDepth 20000 in
theorem ggX2_node_X2_isNode : GoodIn wsX2_node wsX2_isNode := goodIn_r _ [5, 6, 7, 4, 8] (by decide +kernel) (by decide +kernel)
set_option maxRecDepth 20000 in
theorem gX2_node_X2_isNode : GoodIn wsX2_node (va_wsS RX2 106 yX2_isNode wsX2_isNode) := goodIn_app (goodIn_of _ (by decide +kernel)) ggX2_node_X2_isNode
set_option maxRecDepth 20000 in
theorem ggX2_node_X2_no : GoodIn wsX2_node wsX2_no := goodIn_r _ [12, 13, 14, 15, 16, 17, 18, 19, 20, 21, 22, 23, 24, 25, 26, 27] (by decide +kernel) (by decide +kernel)
set_option maxRecDepth 20000 in
theorem gX2_node_X2_no : GoodIn wsX2_node (wsV RX2 39 RX2 yX2_no wsX2_no) := goodIn_app (goodIn_of _ (by decide +kernel)) ggX2_node_X2_no
theorem dX2_node_0 : decode cX2_node 0 = .ok (.iload_n 1, 1) := by decide +kernel
theorem dX2_node_1 : decode cX2_node 1 = .ok (.invokestatic 106, 3) := by decide +kernel
theorem dX2_node_4 : decode cX2_node 4 = .ok (.ifCond .ne 9, 3) := by decide +kernel
theorem dX2_node_7 : decode cX2_node 7 = .ok (.aload_n 0, 1) := by decide +kernel
theorem dX2_node_8 : decode cX2_node 8 = .ok (.iconst (-1), 1) := by decide +kernel
theorem dX2_node_9 : decode cX2_node 9 = .ok (.invokevirtual 39, 3) := by decide +kernel
theorem dX2_node_12 : decode cX2_node 12 = .ok (.ireturn, 1) := by decide +kernel
theorem dX2_node_13 : decode cX2_node 13 = .ok (.iload_n 2, 1) := by decide +kernel
theorem dX2_node_14 : decode cX2_node 14 = .ok (.ifCond .ne 14, 3) := by decide +kernel
theorem dX2_node_17 : decode cX2_node 17 = .ok (.aload_n 0, 1) := by decide +kernel
theorem dX2_node_18 : decode cX2_node 18 = .ok (.getfield 9, 3) := by decide +kernel
theorem dX2_node_21 : decode cX2_node 21 = .ok (.iconst 3, 1) := by decide +kernel
theorem dX2_node_22 : decode cX2_node 22 = .ok (.iload_n 1, 1) := by decide +kernel
theorem dX2_node_23 : decode cX2_node 23 = .ok (.iadd, 1) := by decide +kernel
theorem dX2_node_24 : decode cX2_node 24 = .ok (.iaload, 1) := by decide +kernel
theorem dX2_node_25 : decode cX2_node 25 = .ok (.goto 43, 3) := by decide +kernel
theorem dX2_node_28 : decode cX2_node 28 = .ok (.iload_n 2, 1) := by decide +kernel
theorem dX2_node_29 : decode cX2_node 29 = .ok (.iconst 1, 1) := by decide +kernel
theorem dX2_node_30 : decode cX2_node 30 = .ok (.if_icmp .ne 15, 3) := by decide +kernel
theorem dX2_node_33 : decode cX2_node 33 = .ok (.aload_n 0, 1) := by decide +kernel
theorem dX2_node_34 : decode cX2_node 34 = .ok (.getfield 9, 3) := by decide +kernel
theorem dX2_node_37 : decode cX2_node 37 = .ok (.bipush 33, 2) := by decide +kernel
theorem dX2_node_39 : decode cX2_node 39 = .ok (.iload_n 1, 1) := by decide +kernel
theorem dX2_node_40 : decode cX2_node 40 = .ok (.iadd, 1) := by decide +kernel
theorem dX2_node_41 : decode cX2_node 41 = .ok (.iaload, 1) := by decide +kernel
theorem dX2_node_42 : decode cX2_node 42 = .ok (.goto 26, 3) := by decide +kernel
theorem dX2_node_45 : decode cX2_node 45 = .ok (.iload_n 2, 1) := by decide +kernel
theorem dX2_node_46 : decode cX2_node 46 = .ok (.iconst 2, 1) := by decide +kernel
theorem dX2_node_47 : decode cX2_node 47 = .ok (.if_icmp .ne 15, 3) := by decide +kernel
theorem dX2_node_50 : decode cX2_node 50 = .ok (.aload_n 0, 1) := by decide +kernel
theorem dX2_node_51 : decode cX2_node 51 = .ok (.getfield 9, 3) := by decide +kernel
theorem dX2_node_54 : decode cX2_node 54 = .ok (.bipush 63, 2) := by decide +kernel
theorem dX2_node_56 : decode cX2_node 56 = .ok (.iload_n 1, 1) := by decide +kernel
theorem dX2_node_57 : decode cX2_node 57 = .ok (.iadd, 1) := by decide +kernel
theorem dX2_node_58 : decode cX2_node 58 = .ok (.iaload, 1) := by decide +kernel
theorem dX2_node_59 : decode cX2_node 59 = .ok (.goto 9, 3) := by decide +kernel
theorem dX2_node_62 : decode cX2_node 62 = .ok (.aload_n 0, 1) := by decide +kernel
theorem dX2_node_63 : decode cX2_node 63 = .ok (.bipush (-2), 2) := by decide +kernel
theorem dX2_node_65 : decode cX2_node 65 = .ok (.invokevirtual 39, 3) := by decide +kernel
theorem dX2_node_68 : decode cX2_node 68 = .ok (.ireturn, 1) := by decide +kernel
set_option maxRecDepth 20000 in
theorem ggX2_person_X2_isPerson : GoodIn wsX2_person wsX2_isPerson := goodIn_r _ [6, 1, 7, 8, 5, 9, 27, 28, 29, 30, 31, 32, 33, 34, 35, 36, 37, 38, 39, 40] (by decide +kernel) (by decide +kernel)
set_option maxRecDepth 20000 in
theorem gX2_person_X2_isPerson : GoodIn wsX2_person (wsV RX2 117 RX2 yX2_isPerson wsX2_isPerson) := goodIn_app (goodIn_of _ (by decide +kernel)) ggX2_person_X2_isPerson
set_option maxRecDepth 20000 in
theorem ggX2_person_X2_no : GoodIn wsX2_person wsX2_no := goodIn_r _ [13, 14, 27, 28, 29, 30, 31, 32, 33, 34, 35, 36, 37, 38, 39, 40] (by decide +kernel) (by decide +kernel)
set_option maxRecDepth 20000 in
theorem gX2_person_X2_no : GoodIn wsX2_person (wsV RX2 39 RX2 yX2_no wsX2_no) := goodIn_app (goodIn_of _ (by decide +kernel)) ggX2_person_X2_no
set_option maxRecDepth 20000 in
theorem ggX2_person_X2_isIn : GoodIn wsX2_person wsX2_isIn := goodIn_r _ [9] (by decide +kernel) (by decide +kernel)
set_option maxRecDepth 20000 in
theorem gX2_person_X2_isIn : GoodIn wsX2_person (va_wsS RX2 43 yX2_isIn wsX2_isIn) := goodIn_app (goodIn_of _ (by decide +kernel)) ggX2_person_X2_isIn
set_option maxRecDepth 20000 in
theorem ggX2_person_X2_of : GoodIn wsX2_person wsX2_of := goodIn_r _ [17] (by decide +kernel) (by decide +kernel)
set_option maxRecDepth 20000 in
theorem gX2_person_X2_of : GoodIn wsX2_person (va_wsS RX2 47 yX2_of wsX2_of) := goodIn_app (goodIn_of _ (by decide +kernel)) ggX2_person_X2_of
set_option maxRecDepth 20000 in
theorem ggX2_person_X2_isDry : GoodIn wsX2_person wsX2_isDry := goodIn_r _ [20] (by decide +kernel) (by decide +kernel)
set_option maxRecDepth 20000 in
theorem gX2_person_X2_isDry : GoodIn wsX2_person (va_wsS RX2 55 yX2_isDry wsX2_isDry) := goodIn_app (goodIn_of _ (by decide +kernel)) ggX2_person_X2_isDry
set_option maxRecDepth 20000 in
theorem ggX2_person_X2_wayOf : GoodIn wsX2_person wsX2_wayOf := goodIn_r _ [23, 15, 16, 5, 17, 24, 25, 26] (by decide +kernel) (by decide +kernel)
set_option maxRecDepth 20000 in
theorem gX2_person_X2_wayOf : GoodIn wsX2_person (va_wsS RX2 59 yX2_wayOf wsX2_wayOf) := goodIn_app (goodIn_of _ (by decide +kernel)) ggX2_person_X2_wayOf
theorem dX2_person_0 : decode cX2_person 0 = .ok (.aload_n 0, 1) := by decide +kernel
theorem dX2_person_1 : decode cX2_person 1 = .ok (.iload_n 1, 1) := by decide +kernel
theorem dX2_person_2 : decode cX2_person 2 = .ok (.invokevirtual 117, 3) := by decide +kernel
theorem dX2_person_5 : decode cX2_person 5 = .ok (.ifCond .ne 9, 3) := by decide +kernel
theorem dX2_person_8 : decode cX2_person 8 = .ok (.aload_n 0, 1) := by decide +kernel
theorem dX2_person_9 : decode cX2_person 9 = .ok (.iconst (-1), 1) := by decide +kernel
theorem dX2_person_10 : decode cX2_person 10 = .ok (.invokevirtual 39, 3) := by decide +kernel
theorem dX2_person_13 : decode cX2_person 13 = .ok (.ireturn, 1) := by decide +kernel
theorem dX2_person_14 : decode cX2_person 14 = .ok (.iload_n 2, 1) := by decide +kernel
theorem dX2_person_15 : decode cX2_person 15 = .ok (.iconst 0, 1) := by decide +kernel
theorem dX2_person_16 : decode cX2_person 16 = .ok (.iconst 2, 1) := by decide +kernel
theorem dX2_person_17 : decode cX2_person 17 = .ok (.invokestatic 43, 3) := by decide +kernel
theorem dX2_person_20 : decode cX2_person 20 = .ok (.ifCond .eq 14, 3) := by decide +kernel
theorem dX2_person_23 : decode cX2_person 23 = .ok (.aload_n 0, 1) := by decide +kernel
theorem dX2_person_24 : decode cX2_person 24 = .ok (.getfield 9, 3) := by decide +kernel
theorem dX2_person_27 : decode cX2_person 27 = .ok (.iload_n 1, 1) := by decide +kernel
theorem dX2_person_28 : decode cX2_person 28 = .ok (.iload_n 2, 1) := by decide +kernel
theorem dX2_person_29 : decode cX2_person 29 = .ok (.invokestatic 47, 3) := by decide +kernel
theorem dX2_person_32 : decode cX2_person 32 = .ok (.iaload, 1) := by decide +kernel
theorem dX2_person_33 : decode cX2_person 33 = .ok (.ireturn, 1) := by decide +kernel
theorem dX2_person_34 : decode cX2_person 34 = .ok (.iload_n 2, 1) := by decide +kernel
theorem dX2_person_35 : decode cX2_person 35 = .ok (.iconst 3, 1) := by decide +kernel
theorem dX2_person_36 : decode cX2_person 36 = .ok (.if_icmp .eq 10, 3) := by decide +kernel
theorem dX2_person_39 : decode cX2_person 39 = .ok (.aload_n 0, 1) := by decide +kernel
theorem dX2_person_40 : decode cX2_person 40 = .ok (.bipush (-2), 2) := by decide +kernel
theorem dX2_person_42 : decode cX2_person 42 = .ok (.invokevirtual 39, 3) := by decide +kernel
theorem dX2_person_45 : decode cX2_person 45 = .ok (.ireturn, 1) := by decide +kernel
theorem dX2_person_46 : decode cX2_person 46 = .ok (.aload_n 0, 1) := by decide +kernel
theorem dX2_person_47 : decode cX2_person 47 = .ok (.getfield 9, 3) := by decide +kernel
theorem dX2_person_50 : decode cX2_person 50 = .ok (.aload_n 0, 1) := by decide +kernel
theorem dX2_person_51 : decode cX2_person 51 = .ok (.getfield 9, 3) := by decide +kernel
theorem dX2_person_54 : decode cX2_person 54 = .ok (.iload_n 1, 1) := by decide +kernel
theorem dX2_person_55 : decode cX2_person 55 = .ok (.iconst 0, 1) := by decide +kernel
theorem dX2_person_56 : decode cX2_person 56 = .ok (.invokestatic 47, 3) := by decide +kernel
theorem dX2_person_59 : decode cX2_person 59 = .ok (.iaload, 1) := by decide +kernel
theorem dX2_person_60 : decode cX2_person 60 = .ok (.invokestatic 55, 3) := by decide +kernel
theorem dX2_person_63 : decode cX2_person 63 = .ok (.ifCond .eq 8, 3) := by decide +kernel
theorem dX2_person_66 : decode cX2_person 66 = .ok (.bipush (-9), 2) := by decide +kernel
theorem dX2_person_68 : decode cX2_person 68 = .ok (.goto 19, 3) := by decide +kernel
theorem dX2_person_71 : decode cX2_person 71 = .ok (.aload_n 0, 1) := by decide +kernel
theorem dX2_person_72 : decode cX2_person 72 = .ok (.getfield 9, 3) := by decide +kernel
theorem dX2_person_75 : decode cX2_person 75 = .ok (.iload_n 1, 1) := by decide +kernel
theorem dX2_person_76 : decode cX2_person 76 = .ok (.aload_n 0, 1) := by decide +kernel
theorem dX2_person_77 : decode cX2_person 77 = .ok (.getfield 9, 3) := by decide +kernel
theorem dX2_person_80 : decode cX2_person 80 = .ok (.iconst 1, 1) := by decide +kernel
theorem dX2_person_81 : decode cX2_person 81 = .ok (.iaload, 1) := by decide +kernel
theorem dX2_person_82 : decode cX2_person 82 = .ok (.iconst 1, 1) := by decide +kernel
theorem dX2_person_83 : decode cX2_person 83 = .ok (.iadd, 1) := by decide +kernel
theorem dX2_person_84 : decode cX2_person 84 = .ok (.invokestatic 59, 3) := by decide +kernel
theorem dX2_person_87 : decode cX2_person 87 = .ok (.ireturn, 1) := by decide +kernel
theorem dX2_wrongBy_0 : decode cX2_wrongBy 0 = .ok (.iload_n 0, 1) := by decide +kernel
theorem dX2_wrongBy_1 : decode cX2_wrongBy 1 = .ok (.iload_n 1, 1) := by decide +kernel
theorem dX2_wrongBy_2 : decode cX2_wrongBy 2 = .ok (.if_icmp .ge 8, 3) := by decide +kernel
theorem dX2_wrongBy_5 : decode cX2_wrongBy 5 = .ok (.bipush (-4), 2) := by decide +kernel
theorem dX2_wrongBy_7 : decode cX2_wrongBy 7 = .ok (.goto 14, 3) := by decide +kernel
theorem dX2_wrongBy_10 : decode cX2_wrongBy 10 = .ok (.iload_n 0, 1) := by decide +kernel
theorem dX2_wrongBy_11 : decode cX2_wrongBy 11 = .ok (.iload_n 2, 1) := by decide +kernel
theorem dX2_wrongBy_12 : decode cX2_wrongBy 12 = .ok (.if_icmp .le 8, 3) := by decide +kernel
theorem dX2_wrongBy_15 : decode cX2_wrongBy 15 = .ok (.bipush (-6), 2) := by decide +kernel
theorem dX2_wrongBy_17 : decode cX2_wrongBy 17 = .ok (.goto 4, 3) := by decide +kernel
theorem dX2_wrongBy_20 : decode cX2_wrongBy 20 = .ok (.iconst 0, 1) := by decide +kernel
theorem dX2_wrongBy_21 : decode cX2_wrongBy 21 = .ok (.ireturn, 1) := by decide +kernel
theorem dX2_sets_0 : decode cX2_sets 0 = .ok (.aload_n 0, 1) := by decide +kernel
theorem dX2_sets_1 : decode cX2_sets 1 = .ok (.getfield 9, 3) := by decide +kernel
theorem dX2_sets_4 : decode cX2_sets 4 = .ok (.iload_n 1, 1) := by decide +kernel
theorem dX2_sets_5 : decode cX2_sets 5 = .ok (.iaload, 1) := by decide +kernel
theorem dX2_sets_6 : decode cX2_sets 6 = .ok (.istore_n 3, 1) := by decide +kernel
theorem dX2_sets_7 : decode cX2_sets 7 = .ok (.aload_n 0, 1) := by decide +kernel
theorem dX2_sets_8 : decode cX2_sets 8 = .ok (.getfield 9, 3) := by decide +kernel
theorem dX2_sets_11 : decode cX2_sets 11 = .ok (.iload_n 1, 1) := by decide +kernel
theorem dX2_sets_12 : decode cX2_sets 12 = .ok (.iload_n 2, 1) := by decide +kernel
theorem dX2_sets_13 : decode cX2_sets 13 = .ok (.iastore, 1) := by decide +kernel
theorem dX2_sets_14 : decode cX2_sets 14 = .ok (.iload_n 3, 1) := by decide +kernel
theorem dX2_sets_15 : decode cX2_sets 15 = .ok (.ireturn, 1) := by decide +kernel
set_option maxRecDepth 20000 in
theorem ggX2_lays_X2_isNode : GoodIn wsX2_lays wsX2_isNode := goodIn_r _ [5, 6, 7, 4, 8] (by decide +kernel) (by decide +kernel)
set_option maxRecDepth 20000 in
theorem gX2_lays_X2_isNode : GoodIn wsX2_lays (va_wsS RX2 106 yX2_isNode wsX2_isNode) := goodIn_app (goodIn_of _ (by decide +kernel)) ggX2_lays_X2_isNode
set_option maxRecDepth 20000 in
theorem ggX2_lays_X2_isIn : GoodIn wsX2_lays wsX2_isIn := goodIn_r _ [8] (by decide +kernel) (by decide +kernel)
set_option maxRecDepth 20000 in
theorem gX2_lays_X2_isIn : GoodIn wsX2_lays (va_wsS RX2 43 yX2_isIn wsX2_isIn) := goodIn_app (goodIn_of _ (by decide +kernel)) ggX2_lays_X2_isIn
set_option maxRecDepth 20000 in
theorem ggX2_lays_X2_wrongBy : GoodIn wsX2_lays wsX2_wrongBy := goodIn_r _ [11] (by decide +kernel) (by decide +kernel)
set_option maxRecDepth 20000 in
theorem gX2_lays_X2_wrongBy : GoodIn wsX2_lays (va_wsS RX2 133 yX2_wrongBy wsX2_wrongBy) := goodIn_app (goodIn_of _ (by decide +kernel)) ggX2_lays_X2_wrongBy
set_option maxRecDepth 20000 in
theorem ggX2_lays_X2_no : GoodIn wsX2_lays wsX2_no := goodIn_r _ [15, 16, 17, 18, 19, 20, 21, 22, 23, 24, 25, 26, 27, 28, 29, 30] (by decide +kernel) (by decide +kernel)
set_option maxRecDepth 20000 in
theorem gX2_lays_X2_no : GoodIn wsX2_lays (wsV RX2 39 RX2 yX2_no wsX2_no) := goodIn_app (goodIn_of _ (by decide +kernel)) ggX2_lays_X2_no
theorem dX2_lays_0 : decode cX2_lays 0 = .ok (.iload_n 1, 1) := by decide +kernel
theorem dX2_lays_1 : decode cX2_lays 1 = .ok (.invokestatic 106, 3) := by decide +kernel
theorem dX2_lays_4 : decode cX2_lays 4 = .ok (.ifCond .ne 7, 3) := by decide +kernel
theorem dX2_lays_7 : decode cX2_lays 7 = .ok (.iconst (-1), 1) := by decide +kernel
theorem dX2_lays_8 : decode cX2_lays 8 = .ok (.goto 24, 3) := by decide +kernel
theorem dX2_lays_11 : decode cX2_lays 11 = .ok (.iload_n 2, 1) := by decide +kernel
theorem dX2_lays_12 : decode cX2_lays 12 = .ok (.iconst 0, 1) := by decide +kernel
theorem dX2_lays_13 : decode cX2_lays 13 = .ok (.iconst 5, 1) := by decide +kernel
theorem dX2_lays_14 : decode cX2_lays 14 = .ok (.invokestatic 43, 3) := by decide +kernel
theorem dX2_lays_17 : decode cX2_lays 17 = .ok (.ifCond .ne 8, 3) := by decide +kernel
theorem dX2_lays_20 : decode cX2_lays 20 = .ok (.bipush (-2), 2) := by decide +kernel
theorem dX2_lays_22 : decode cX2_lays 22 = .ok (.goto 10, 3) := by decide +kernel
theorem dX2_lays_25 : decode cX2_lays 25 = .ok (.iload_n 3, 1) := by decide +kernel
theorem dX2_lays_26 : decode cX2_lays 26 = .ok (.iconst 0, 1) := by decide +kernel
theorem dX2_lays_27 : decode cX2_lays 27 = .ok (.bipush 9, 2) := by decide +kernel
theorem dX2_lays_29 : decode cX2_lays 29 = .ok (.invokestatic 133, 3) := by decide +kernel
theorem dX2_lays_32 : decode cX2_lays 32 = .ok (.istore 4, 2) := by decide +kernel
theorem dX2_lays_34 : decode cX2_lays 34 = .ok (.iload 4, 2) := by decide +kernel
theorem dX2_lays_36 : decode cX2_lays 36 = .ok (.ifCond .eq 10, 3) := by decide +kernel
theorem dX2_lays_39 : decode cX2_lays 39 = .ok (.aload_n 0, 1) := by decide +kernel
theorem dX2_lays_40 : decode cX2_lays 40 = .ok (.iload 4, 2) := by decide +kernel
theorem dX2_lays_42 : decode cX2_lays 42 = .ok (.invokevirtual 39, 3) := by decide +kernel
theorem dX2_lays_45 : decode cX2_lays 45 = .ok (.ireturn, 1) := by decide +kernel
theorem dX2_lays_46 : decode cX2_lays 46 = .ok (.bipush 10, 2) := by decide +kernel
theorem dX2_lays_48 : decode cX2_lays 48 = .ok (.aload_n 0, 1) := by decide +kernel
theorem dX2_lays_49 : decode cX2_lays 49 = .ok (.getfield 9, 3) := by decide +kernel
theorem dX2_lays_52 : decode cX2_lays 52 = .ok (.iconst 3, 1) := by decide +kernel
theorem dX2_lays_53 : decode cX2_lays 53 = .ok (.iload_n 1, 1) := by decide +kernel
theorem dX2_lays_54 : decode cX2_lays 54 = .ok (.iadd, 1) := by decide +kernel
theorem dX2_lays_55 : decode cX2_lays 55 = .ok (.iaload, 1) := by decide +kernel
theorem dX2_lays_56 : decode cX2_lays 56 = .ok (.imul, 1) := by decide +kernel
theorem dX2_lays_57 : decode cX2_lays 57 = .ok (.aload_n 0, 1) := by decide +kernel
theorem dX2_lays_58 : decode cX2_lays 58 = .ok (.getfield 9, 3) := by decide +kernel
theorem dX2_lays_61 : decode cX2_lays 61 = .ok (.bipush 33, 2) := by decide +kernel
theorem dX2_lays_63 : decode cX2_lays 63 = .ok (.iload_n 1, 1) := by decide +kernel
theorem dX2_lays_64 : decode cX2_lays 64 = .ok (.iadd, 1) := by decide +kernel
theorem dX2_lays_65 : decode cX2_lays 65 = .ok (.iaload, 1) := by decide +kernel
theorem dX2_lays_66 : decode cX2_lays 66 = .ok (.iadd, 1) := by decide +kernel
theorem dX2_lays_67 : decode cX2_lays 67 = .ok (.istore 5, 2) := by decide +kernel
theorem dX2_lays_69 : decode cX2_lays 69 = .ok (.aload_n 0, 1) := by decide +kernel
theorem dX2_lays_70 : decode cX2_lays 70 = .ok (.getfield 9, 3) := by decide +kernel
theorem dX2_lays_73 : decode cX2_lays 73 = .ok (.iconst 3, 1) := by decide +kernel
theorem dX2_lays_74 : decode cX2_lays 74 = .ok (.iload_n 1, 1) := by decide +kernel
theorem dX2_lays_75 : decode cX2_lays 75 = .ok (.iadd, 1) := by decide +kernel
theorem dX2_lays_76 : decode cX2_lays 76 = .ok (.iload_n 2, 1) := by decide +kernel
theorem dX2_lays_77 : decode cX2_lays 77 = .ok (.iastore, 1) := by decide +kernel
theorem dX2_lays_78 : decode cX2_lays 78 = .ok (.aload_n 0, 1) := by decide +kernel
theorem dX2_lays_79 : decode cX2_lays 79 = .ok (.getfield 9, 3) := by decide +kernel
theorem dX2_lays_82 : decode cX2_lays 82 = .ok (.bipush 33, 2) := by decide +kernel
theorem dX2_lays_84 : decode cX2_lays 84 = .ok (.iload_n 1, 1) := by decide +kernel
theorem dX2_lays_85 : decode cX2_lays 85 = .ok (.iadd, 1) := by decide +kernel
theorem dX2_lays_86 : decode cX2_lays 86 = .ok (.iload_n 3, 1) := by decide +kernel
theorem dX2_lays_87 : decode cX2_lays 87 = .ok (.iastore, 1) := by decide +kernel
theorem dX2_lays_88 : decode cX2_lays 88 = .ok (.iload 5, 2) := by decide +kernel
theorem dX2_lays_90 : decode cX2_lays 90 = .ok (.ireturn, 1) := by decide +kernel
set_option maxRecDepth 20000 in
theorem ggX2_wets_X2_isNode : GoodIn wsX2_wets wsX2_isNode := goodIn_r _ [4, 5, 6, 3, 7] (by decide +kernel) (by decide +kernel)
set_option maxRecDepth 20000 in
theorem gX2_wets_X2_isNode : GoodIn wsX2_wets (va_wsS RX2 106 yX2_isNode wsX2_isNode) := goodIn_app (goodIn_of _ (by decide +kernel)) ggX2_wets_X2_isNode
set_option maxRecDepth 20000 in
theorem ggX2_wets_X2_wrongBy : GoodIn wsX2_wets wsX2_wrongBy := goodIn_r _ [10] (by decide +kernel) (by decide +kernel)
set_option maxRecDepth 20000 in
theorem gX2_wets_X2_wrongBy : GoodIn wsX2_wets (va_wsS RX2 133 yX2_wrongBy wsX2_wrongBy) := goodIn_app (goodIn_of _ (by decide +kernel)) ggX2_wets_X2_wrongBy
set_option maxRecDepth 20000 in
theorem ggX2_wets_X2_no : GoodIn wsX2_wets wsX2_no := goodIn_r _ [14, 15, 21, 22, 23, 24, 25, 26, 27, 28, 29, 30, 31, 32, 33, 34] (by decide +kernel) (by decide +kernel)
set_option maxRecDepth 20000 in
theorem gX2_wets_X2_no : GoodIn wsX2_wets (wsV RX2 39 RX2 yX2_no wsX2_no) := goodIn_app (goodIn_of _ (by decide +kernel)) ggX2_wets_X2_no
set_option maxRecDepth 20000 in
theorem ggX2_wets_X2_sets : GoodIn wsX2_wets wsX2_sets := goodIn_r _ [19, 20, 21, 22, 23, 24, 25, 26, 27, 28, 29, 30, 31, 32, 33, 34] (by decide +kernel) (by decide +kernel)
set_option maxRecDepth 20000 in
theorem gX2_wets_X2_sets : GoodIn wsX2_wets (wsV RX2 137 RX2 yX2_sets wsX2_sets) := goodIn_app (goodIn_of _ (by decide +kernel)) ggX2_wets_X2_sets
theorem dX2_wets_0 : decode cX2_wets 0 = .ok (.iload_n 1, 1) := by decide +kernel
theorem dX2_wets_1 : decode cX2_wets 1 = .ok (.invokestatic 106, 3) := by decide +kernel
theorem dX2_wets_4 : decode cX2_wets 4 = .ok (.ifCond .eq 13, 3) := by decide +kernel
theorem dX2_wets_7 : decode cX2_wets 7 = .ok (.iload_n 2, 1) := by decide +kernel
theorem dX2_wets_8 : decode cX2_wets 8 = .ok (.iconst 0, 1) := by decide +kernel
theorem dX2_wets_9 : decode cX2_wets 9 = .ok (.bipush 9, 2) := by decide +kernel
theorem dX2_wets_11 : decode cX2_wets 11 = .ok (.invokestatic 133, 3) := by decide +kernel
theorem dX2_wets_14 : decode cX2_wets 14 = .ok (.goto 4, 3) := by decide +kernel
theorem dX2_wets_17 : decode cX2_wets 17 = .ok (.iconst (-1), 1) := by decide +kernel
theorem dX2_wets_18 : decode cX2_wets 18 = .ok (.istore_n 3, 1) := by decide +kernel
theorem dX2_wets_19 : decode cX2_wets 19 = .ok (.iload_n 3, 1) := by decide +kernel
theorem dX2_wets_20 : decode cX2_wets 20 = .ok (.ifCond .eq 11, 3) := by decide +kernel
theorem dX2_wets_23 : decode cX2_wets 23 = .ok (.aload_n 0, 1) := by decide +kernel
theorem dX2_wets_24 : decode cX2_wets 24 = .ok (.iload_n 3, 1) := by decide +kernel
theorem dX2_wets_25 : decode cX2_wets 25 = .ok (.invokevirtual 39, 3) := by decide +kernel
theorem dX2_wets_28 : decode cX2_wets 28 = .ok (.goto 12, 3) := by decide +kernel
theorem dX2_wets_31 : decode cX2_wets 31 = .ok (.aload_n 0, 1) := by decide +kernel
theorem dX2_wets_32 : decode cX2_wets 32 = .ok (.bipush 63, 2) := by decide +kernel
theorem dX2_wets_34 : decode cX2_wets 34 = .ok (.iload_n 1, 1) := by decide +kernel
theorem dX2_wets_35 : decode cX2_wets 35 = .ok (.iadd, 1) := by decide +kernel
theorem dX2_wets_36 : decode cX2_wets 36 = .ok (.iload_n 2, 1) := by decide +kernel
theorem dX2_wets_37 : decode cX2_wets 37 = .ok (.invokevirtual 137, 3) := by decide +kernel
theorem dX2_wets_40 : decode cX2_wets 40 = .ok (.ireturn, 1) := by decide +kernel
set_option maxRecDepth 20000 in
theorem ggX2_comesIn_X2_isNode : GoodIn wsX2_comesIn wsX2_isNode := goodIn_r _ [5, 6, 7, 4, 8] (by decide +kernel) (by decide +kernel)
set_option maxRecDepth 20000 in
theorem gX2_comesIn_X2_isNode : GoodIn wsX2_comesIn (va_wsS RX2 106 yX2_isNode wsX2_isNode) := goodIn_app (goodIn_of _ (by decide +kernel)) ggX2_comesIn_X2_isNode
set_option maxRecDepth 20000 in
theorem ggX2_comesIn_X2_isWay : GoodIn wsX2_comesIn wsX2_isWay := goodIn_r _ [11, 6, 7, 4, 8] (by decide +kernel) (by decide +kernel)
set_option maxRecDepth 20000 in
theorem gX2_comesIn_X2_isWay : GoodIn wsX2_comesIn (va_wsS RX2 110 yX2_isWay wsX2_isWay) := goodIn_app (goodIn_of _ (by decide +kernel)) ggX2_comesIn_X2_isWay
set_option maxRecDepth 20000 in
theorem ggX2_comesIn_X2_no : GoodIn wsX2_comesIn wsX2_no := goodIn_r _ [15, 16, 24, 25, 26, 27, 28, 29, 30, 31, 32, 33, 34, 35, 36, 37] (by decide +kernel) (by decide +kernel)
set_option maxRecDepth 20000 in
theorem gX2_comesIn_X2_no : GoodIn wsX2_comesIn (wsV RX2 39 RX2 yX2_no wsX2_no) := goodIn_app (goodIn_of _ (by decide +kernel)) ggX2_comesIn_X2_no
set_option maxRecDepth 20000 in
theorem ggX2_comesIn_X2_adds : GoodIn wsX2_comesIn wsX2_adds := goodIn_r _ [20, 1, 21, 22, 4, 23, 24, 25, 26, 27, 28, 29, 30, 31, 32, 33, 34, 35, 36, 37] (by decide +kernel) (by decide +kernel)
set_option maxRecDepth 20000 in
theorem gX2_comesIn_X2_adds : GoodIn wsX2_comesIn (wsV RX2 113 RX2 yX2_adds wsX2_adds) := goodIn_app (goodIn_of _ (by decide +kernel)) ggX2_comesIn_X2_adds
theorem dX2_comesIn_0 : decode cX2_comesIn 0 = .ok (.iload_n 1, 1) := by decide +kernel
theorem dX2_comesIn_1 : decode cX2_comesIn 1 = .ok (.invokestatic 106, 3) := by decide +kernel
theorem dX2_comesIn_4 : decode cX2_comesIn 4 = .ok (.ifCond .eq 10, 3) := by decide +kernel
theorem dX2_comesIn_7 : decode cX2_comesIn 7 = .ok (.iload_n 2, 1) := by decide +kernel
theorem dX2_comesIn_8 : decode cX2_comesIn 8 = .ok (.invokestatic 110, 3) := by decide +kernel
theorem dX2_comesIn_11 : decode cX2_comesIn 11 = .ok (.ifCond .ne 9, 3) := by decide +kernel
theorem dX2_comesIn_14 : decode cX2_comesIn 14 = .ok (.aload_n 0, 1) := by decide +kernel
theorem dX2_comesIn_15 : decode cX2_comesIn 15 = .ok (.iconst (-1), 1) := by decide +kernel
theorem dX2_comesIn_16 : decode cX2_comesIn 16 = .ok (.invokevirtual 39, 3) := by decide +kernel
theorem dX2_comesIn_19 : decode cX2_comesIn 19 = .ok (.ireturn, 1) := by decide +kernel
theorem dX2_comesIn_20 : decode cX2_comesIn 20 = .ok (.aload_n 0, 1) := by decide +kernel
theorem dX2_comesIn_21 : decode cX2_comesIn 21 = .ok (.getfield 9, 3) := by decide +kernel
theorem dX2_comesIn_24 : decode cX2_comesIn 24 = .ok (.iconst 0, 1) := by decide +kernel
theorem dX2_comesIn_25 : decode cX2_comesIn 25 = .ok (.iaload, 1) := by decide +kernel
theorem dX2_comesIn_26 : decode cX2_comesIn 26 = .ok (.iconst 4, 1) := by decide +kernel
theorem dX2_comesIn_27 : decode cX2_comesIn 27 = .ok (.if_icmp .ne 10, 3) := by decide +kernel
theorem dX2_comesIn_30 : decode cX2_comesIn 30 = .ok (.aload_n 0, 1) := by decide +kernel
theorem dX2_comesIn_31 : decode cX2_comesIn 31 = .ok (.bipush (-6), 2) := by decide +kernel
theorem dX2_comesIn_33 : decode cX2_comesIn 33 = .ok (.invokevirtual 39, 3) := by decide +kernel
theorem dX2_comesIn_36 : decode cX2_comesIn 36 = .ok (.ireturn, 1) := by decide +kernel
theorem dX2_comesIn_37 : decode cX2_comesIn 37 = .ok (.aload_n 0, 1) := by decide +kernel
theorem dX2_comesIn_38 : decode cX2_comesIn 38 = .ok (.iload_n 1, 1) := by decide +kernel
theorem dX2_comesIn_39 : decode cX2_comesIn 39 = .ok (.iload_n 2, 1) := by decide +kernel
theorem dX2_comesIn_40 : decode cX2_comesIn 40 = .ok (.invokevirtual 113, 3) := by decide +kernel
theorem dX2_comesIn_43 : decode cX2_comesIn 43 = .ok (.aload_n 0, 1) := by decide +kernel
theorem dX2_comesIn_44 : decode cX2_comesIn 44 = .ok (.getfield 9, 3) := by decide +kernel
theorem dX2_comesIn_47 : decode cX2_comesIn 47 = .ok (.iconst 0, 1) := by decide +kernel
theorem dX2_comesIn_48 : decode cX2_comesIn 48 = .ok (.iaload, 1) := by decide +kernel
theorem dX2_comesIn_49 : decode cX2_comesIn 49 = .ok (.iconst 1, 1) := by decide +kernel
theorem dX2_comesIn_50 : decode cX2_comesIn 50 = .ok (.isub, 1) := by decide +kernel
theorem dX2_comesIn_51 : decode cX2_comesIn 51 = .ok (.ireturn, 1) := by decide +kernel
set_option maxRecDepth 20000 in
theorem ggX2_heads_X2_isPerson : GoodIn wsX2_heads wsX2_isPerson := goodIn_r _ [5, 6, 7, 8, 4, 9, 25, 26, 27, 28, 29, 30, 31, 32, 33, 34, 35, 36, 37, 38] (by decide +kernel) (by decide +kernel)
set_option maxRecDepth 20000 in
theorem gX2_heads_X2_isPerson : GoodIn wsX2_heads (wsV RX2 117 RX2 yX2_isPerson wsX2_isPerson) := goodIn_app (goodIn_of _ (by decide +kernel)) ggX2_heads_X2_isPerson
set_option maxRecDepth 20000 in
theorem ggX2_heads_X2_isWay : GoodIn wsX2_heads wsX2_isWay := goodIn_r _ [12, 7, 8, 4, 9] (by decide +kernel) (by decide +kernel)
set_option maxRecDepth 20000 in
theorem gX2_heads_X2_isWay : GoodIn wsX2_heads (va_wsS RX2 110 yX2_isWay wsX2_isWay) := goodIn_app (goodIn_of _ (by decide +kernel)) ggX2_heads_X2_isWay
set_option maxRecDepth 20000 in
theorem ggX2_heads_X2_of : GoodIn wsX2_heads wsX2_of := goodIn_r _ [15] (by decide +kernel) (by decide +kernel)
set_option maxRecDepth 20000 in
theorem gX2_heads_X2_of : GoodIn wsX2_heads (va_wsS RX2 47 yX2_of wsX2_of) := goodIn_app (goodIn_of _ (by decide +kernel)) ggX2_heads_X2_of
set_option maxRecDepth 20000 in
theorem ggX2_heads_X2_sets : GoodIn wsX2_heads wsX2_sets := goodIn_r _ [19, 6, 25, 26, 27, 28, 29, 30, 31, 32, 33, 34, 35, 36, 37, 38] (by decide +kernel) (by decide +kernel)
set_option maxRecDepth 20000 in
theorem gX2_heads_X2_sets : GoodIn wsX2_heads (wsV RX2 137 RX2 yX2_sets wsX2_sets) := goodIn_app (goodIn_of _ (by decide +kernel)) ggX2_heads_X2_sets
set_option maxRecDepth 20000 in
theorem ggX2_heads_X2_no : GoodIn wsX2_heads wsX2_no := goodIn_r _ [23, 24, 25, 26, 27, 28, 29, 30, 31, 32, 33, 34, 35, 36, 37, 38] (by decide +kernel) (by decide +kernel)
set_option maxRecDepth 20000 in
theorem gX2_heads_X2_no : GoodIn wsX2_heads (wsV RX2 39 RX2 yX2_no wsX2_no) := goodIn_app (goodIn_of _ (by decide +kernel)) ggX2_heads_X2_no
theorem dX2_heads_0 : decode cX2_heads 0 = .ok (.aload_n 0, 1) := by decide +kernel
theorem dX2_heads_1 : decode cX2_heads 1 = .ok (.iload_n 1, 1) := by decide +kernel
theorem dX2_heads_2 : decode cX2_heads 2 = .ok (.invokevirtual 117, 3) := by decide +kernel
theorem dX2_heads_5 : decode cX2_heads 5 = .ok (.ifCond .eq 23, 3) := by decide +kernel
theorem dX2_heads_8 : decode cX2_heads 8 = .ok (.iload_n 2, 1) := by decide +kernel
theorem dX2_heads_9 : decode cX2_heads 9 = .ok (.invokestatic 110, 3) := by decide +kernel
theorem dX2_heads_12 : decode cX2_heads 12 = .ok (.ifCond .eq 16, 3) := by decide +kernel
theorem dX2_heads_15 : decode cX2_heads 15 = .ok (.aload_n 0, 1) := by decide +kernel
theorem dX2_heads_16 : decode cX2_heads 16 = .ok (.iload_n 1, 1) := by decide +kernel
theorem dX2_heads_17 : decode cX2_heads 17 = .ok (.iconst 1, 1) := by decide +kernel
theorem dX2_heads_18 : decode cX2_heads 18 = .ok (.invokestatic 47, 3) := by decide +kernel
theorem dX2_heads_21 : decode cX2_heads 21 = .ok (.iload_n 2, 1) := by decide +kernel
theorem dX2_heads_22 : decode cX2_heads 22 = .ok (.invokevirtual 137, 3) := by decide +kernel
theorem dX2_heads_25 : decode cX2_heads 25 = .ok (.goto 8, 3) := by decide +kernel
theorem dX2_heads_28 : decode cX2_heads 28 = .ok (.aload_n 0, 1) := by decide +kernel
theorem dX2_heads_29 : decode cX2_heads 29 = .ok (.iconst (-1), 1) := by decide +kernel
theorem dX2_heads_30 : decode cX2_heads 30 = .ok (.invokevirtual 39, 3) := by decide +kernel
theorem dX2_heads_33 : decode cX2_heads 33 = .ok (.ireturn, 1) := by decide +kernel
set_option maxRecDepth 20000 in
theorem ggX2_areThere_X2_isPerson : GoodIn wsX2_areThere wsX2_isPerson := goodIn_r _ [5, 6, 7, 8, 4, 9, 13, 14, 15, 16, 17, 18, 19, 20, 21, 22, 23, 24, 25, 26] (by decide +kernel) (by decide +kernel)
set_option maxRecDepth 20000 in
theorem gX2_areThere_X2_isPerson : GoodIn wsX2_areThere (wsV RX2 117 RX2 yX2_isPerson wsX2_isPerson) := goodIn_app (goodIn_of _ (by decide +kernel)) ggX2_areThere_X2_isPerson
set_option maxRecDepth 20000 in
theorem ggX2_areThere_X2_isNode : GoodIn wsX2_areThere wsX2_isNode := goodIn_r _ [12, 7, 8, 4, 9] (by decide +kernel) (by decide +kernel)
set_option maxRecDepth 20000 in
theorem gX2_areThere_X2_isNode : GoodIn wsX2_areThere (va_wsS RX2 106 yX2_isNode wsX2_isNode) := goodIn_app (goodIn_of _ (by decide +kernel)) ggX2_areThere_X2_isNode
theorem dX2_areThere_0 : decode cX2_areThere 0 = .ok (.aload_n 0, 1) := by decide +kernel
theorem dX2_areThere_1 : decode cX2_areThere 1 = .ok (.iload_n 1, 1) := by decide +kernel
theorem dX2_areThere_2 : decode cX2_areThere 2 = .ok (.invokevirtual 117, 3) := by decide +kernel
theorem dX2_areThere_5 : decode cX2_areThere 5 = .ok (.ifCond .eq 14, 3) := by decide +kernel
theorem dX2_areThere_8 : decode cX2_areThere 8 = .ok (.iload_n 2, 1) := by decide +kernel
theorem dX2_areThere_9 : decode cX2_areThere 9 = .ok (.invokestatic 106, 3) := by decide +kernel
theorem dX2_areThere_12 : decode cX2_areThere 12 = .ok (.ifCond .eq 7, 3) := by decide +kernel
theorem dX2_areThere_15 : decode cX2_areThere 15 = .ok (.iconst 1, 1) := by decide +kernel
theorem dX2_areThere_16 : decode cX2_areThere 16 = .ok (.goto 4, 3) := by decide +kernel
theorem dX2_areThere_19 : decode cX2_areThere 19 = .ok (.iconst 0, 1) := by decide +kernel
theorem dX2_areThere_20 : decode cX2_areThere 20 = .ok (.ireturn, 1) := by decide +kernel
set_option maxRecDepth 20000 in
theorem ggX2_stands_X2_areThere : GoodIn wsX2_stands wsX2_areThere := goodIn_r _ [5, 6, 7, 8, 4, 9, 10, 11, 12, 13, 14, 15, 16, 29, 30, 31, 32, 33, 34, 35, 36, 37, 38, 39, 40, 41, 42] (by decide +kernel) (by decide +kernel)
set_option maxRecDepth 20000 in
theorem gX2_stands_X2_areThere : GoodIn wsX2_stands (wsV RX2 140 RX2 yX2_areThere wsX2_areThere) := goodIn_app (goodIn_of _ (by decide +kernel)) ggX2_stands_X2_areThere
set_option maxRecDepth 20000 in
theorem ggX2_stands_X2_of : GoodIn wsX2_stands wsX2_of := goodIn_r _ [19] (by decide +kernel) (by decide +kernel)
set_option maxRecDepth 20000 in
theorem gX2_stands_X2_of : GoodIn wsX2_stands (va_wsS RX2 47 yX2_of wsX2_of) := goodIn_app (goodIn_of _ (by decide +kernel)) ggX2_stands_X2_of
set_option maxRecDepth 20000 in
theorem ggX2_stands_X2_sets : GoodIn wsX2_stands wsX2_sets := goodIn_r _ [23, 10, 29, 30, 31, 32, 33, 34, 35, 36, 37, 38, 39, 40, 41, 42] (by decide +kernel) (by decide +kernel)
set_option maxRecDepth 20000 in
theorem gX2_stands_X2_sets : GoodIn wsX2_stands (wsV RX2 137 RX2 yX2_sets wsX2_sets) := goodIn_app (goodIn_of _ (by decide +kernel)) ggX2_stands_X2_sets
set_option maxRecDepth 20000 in
theorem ggX2_stands_X2_no : GoodIn wsX2_stands wsX2_no := goodIn_r _ [27, 28, 29, 30, 31, 32, 33, 34, 35, 36, 37, 38, 39, 40, 41, 42] (by decide +kernel) (by decide +kernel)
set_option maxRecDepth 20000 in
theorem gX2_stands_X2_no : GoodIn wsX2_stands (wsV RX2 39 RX2 yX2_no wsX2_no) := goodIn_app (goodIn_of _ (by decide +kernel)) ggX2_stands_X2_no
theorem dX2_stands_0 : decode cX2_stands 0 = .ok (.aload_n 0, 1) := by decide +kernel
theorem dX2_stands_1 : decode cX2_stands 1 = .ok (.iload_n 1, 1) := by decide +kernel
theorem dX2_stands_2 : decode cX2_stands 2 = .ok (.iload_n 2, 1) := by decide +kernel
theorem dX2_stands_3 : decode cX2_stands 3 = .ok (.invokevirtual 140, 3) := by decide +kernel
theorem dX2_stands_6 : decode cX2_stands 6 = .ok (.ifCond .eq 16, 3) := by decide +kernel
theorem dX2_stands_9 : decode cX2_stands 9 = .ok (.aload_n 0, 1) := by decide +kernel
theorem dX2_stands_10 : decode cX2_stands 10 = .ok (.iload_n 1, 1) := by decide +kernel
theorem dX2_stands_11 : decode cX2_stands 11 = .ok (.iconst 0, 1) := by decide +kernel
theorem dX2_stands_12 : decode cX2_stands 12 = .ok (.invokestatic 47, 3) := by decide +kernel
theorem dX2_stands_15 : decode cX2_stands 15 = .ok (.iload_n 2, 1) := by decide +kernel
theorem dX2_stands_16 : decode cX2_stands 16 = .ok (.invokevirtual 137, 3) := by decide +kernel
theorem dX2_stands_19 : decode cX2_stands 19 = .ok (.goto 8, 3) := by decide +kernel
theorem dX2_stands_22 : decode cX2_stands 22 = .ok (.aload_n 0, 1) := by decide +kernel
theorem dX2_stands_23 : decode cX2_stands 23 = .ok (.iconst (-1), 1) := by decide +kernel
theorem dX2_stands_24 : decode cX2_stands 24 = .ok (.invokevirtual 39, 3) := by decide +kernel
theorem dX2_stands_27 : decode cX2_stands 27 = .ok (.ireturn, 1) := by decide +kernel
set_option maxRecDepth 20000 in
theorem ggX2_steps_X2_no : GoodIn wsX2_steps wsX2_no := goodIn_r _ [6, 7, 44, 45, 46, 47, 48, 49, 50, 51, 52, 53, 54, 55, 56, 57] (by decide +kernel) (by decide +kernel)
set_option maxRecDepth 20000 in
theorem gX2_steps_X2_no : GoodIn wsX2_steps (wsV RX2 39 RX2 yX2_no wsX2_no) := goodIn_app (goodIn_of _ (by decide +kernel)) ggX2_steps_X2_no
set_option maxRecDepth 20000 in
theorem ggX2_steps_X2_stepsOn : GoodIn wsX2_steps wsX2_stepsOn := goodIn_r _ [10, 11, 12, 5, 13, 14, 15, 16, 17, 18, 19, 20, 21, 22, 23, 24, 25, 26, 27, 28, 29, 30, 31, 32, 33, 34, 35, 36, 37] (by decide +kernel) (by decide +kernel)
set_option maxRecDepth 20000 in
theorem gX2_steps_X2_stepsOn : GoodIn wsX2_steps (va_wsS RX2 120 yX2_stepsOn wsX2_stepsOn) := goodIn_app (goodIn_of _ (by decide +kernel)) ggX2_steps_X2_stepsOn
set_option maxRecDepth 20000 in
theorem ggX2_steps_X2_allWet : GoodIn wsX2_steps wsX2_allWet := goodIn_r _ [40, 41, 42, 5, 43] (by decide +kernel) (by decide +kernel)
set_option maxRecDepth 20000 in
theorem gX2_steps_X2_allWet : GoodIn wsX2_steps (va_wsS RX2 143 yX2_allWet wsX2_allWet) := goodIn_app (goodIn_of _ (by decide +kernel)) ggX2_steps_X2_allWet
theorem dX2_steps_0 : decode cX2_steps 0 = .ok (.iload_n 1, 1) := by decide +kernel
theorem dX2_steps_1 : decode cX2_steps 1 = .ok (.iconst 1, 1) := by decide +kernel
theorem dX2_steps_2 : decode cX2_steps 2 = .ok (.if_icmp .ge 10, 3) := by decide +kernel
theorem dX2_steps_5 : decode cX2_steps 5 = .ok (.aload_n 0, 1) := by decide +kernel
theorem dX2_steps_6 : decode cX2_steps 6 = .ok (.bipush (-4), 2) := by decide +kernel
theorem dX2_steps_8 : decode cX2_steps 8 = .ok (.invokevirtual 39, 3) := by decide +kernel
theorem dX2_steps_11 : decode cX2_steps 11 = .ok (.ireturn, 1) := by decide +kernel
theorem dX2_steps_12 : decode cX2_steps 12 = .ok (.iload_n 1, 1) := by decide +kernel
theorem dX2_steps_13 : decode cX2_steps 13 = .ok (.bipush 60, 2) := by decide +kernel
theorem dX2_steps_15 : decode cX2_steps 15 = .ok (.if_icmp .gt 17, 3) := by decide +kernel
theorem dX2_steps_18 : decode cX2_steps 18 = .ok (.aload_n 0, 1) := by decide +kernel
theorem dX2_steps_19 : decode cX2_steps 19 = .ok (.getfield 9, 3) := by decide +kernel
theorem dX2_steps_22 : decode cX2_steps 22 = .ok (.iconst 1, 1) := by decide +kernel
theorem dX2_steps_23 : decode cX2_steps 23 = .ok (.iaload, 1) := by decide +kernel
theorem dX2_steps_24 : decode cX2_steps 24 = .ok (.iload_n 1, 1) := by decide +kernel
theorem dX2_steps_25 : decode cX2_steps 25 = .ok (.iadd, 1) := by decide +kernel
theorem dX2_steps_26 : decode cX2_steps 26 = .ok (.sipush 999, 3) := by decide +kernel
theorem dX2_steps_29 : decode cX2_steps 29 = .ok (.if_icmp .le 10, 3) := by decide +kernel
theorem dX2_steps_32 : decode cX2_steps 32 = .ok (.aload_n 0, 1) := by decide +kernel
theorem dX2_steps_33 : decode cX2_steps 33 = .ok (.bipush (-6), 2) := by decide +kernel
theorem dX2_steps_35 : decode cX2_steps 35 = .ok (.invokevirtual 39, 3) := by decide +kernel
theorem dX2_steps_38 : decode cX2_steps 38 = .ok (.ireturn, 1) := by decide +kernel
theorem dX2_steps_39 : decode cX2_steps 39 = .ok (.aload_n 0, 1) := by decide +kernel
theorem dX2_steps_40 : decode cX2_steps 40 = .ok (.getfield 9, 3) := by decide +kernel
theorem dX2_steps_43 : decode cX2_steps 43 = .ok (.iload_n 1, 1) := by decide +kernel
theorem dX2_steps_44 : decode cX2_steps 44 = .ok (.invokestatic 120, 3) := by decide +kernel
theorem dX2_steps_47 : decode cX2_steps 47 = .ok (.aload_n 0, 1) := by decide +kernel
theorem dX2_steps_48 : decode cX2_steps 48 = .ok (.getfield 9, 3) := by decide +kernel
theorem dX2_steps_51 : decode cX2_steps 51 = .ok (.invokestatic 143, 3) := by decide +kernel
theorem dX2_steps_54 : decode cX2_steps 54 = .ok (.ireturn, 1) := by decide +kernel
set_option maxRecDepth 20000 in
theorem ggX2_takes_X2_copies : GoodIn wsX2_takes wsX2_copies := goodIn_r _ [6] (by decide +kernel) (by decide +kernel)
set_option maxRecDepth 20000 in
theorem gX2_takes_X2_copies : GoodIn wsX2_takes (va_wsS RX2 126 yX2_copies wsX2_copies) := goodIn_app (goodIn_of _ (by decide +kernel)) ggX2_takes_X2_copies
set_option maxRecDepth 20000 in
theorem ggX2_takes_X2_stepsOn : GoodIn wsX2_takes wsX2_stepsOn := goodIn_r _ [9, 10, 11, 5, 12, 13, 14, 15, 16, 17, 18, 19, 20, 21, 22, 23, 24, 25, 26, 27, 28, 29, 30, 31, 32, 33, 34, 35, 36] (by decide +kernel) (by decide +kernel)
set_option maxRecDepth 20000 in
theorem gX2_takes_X2_stepsOn : GoodIn wsX2_takes (va_wsS RX2 120 yX2_stepsOn wsX2_stepsOn) := goodIn_app (goodIn_of _ (by decide +kernel)) ggX2_takes_X2_stepsOn
theorem dX2_takes_0 : decode cX2_takes 0 = .ok (.aload_n 0, 1) := by decide +kernel
theorem dX2_takes_1 : decode cX2_takes 1 = .ok (.getfield 9, 3) := by decide +kernel
theorem dX2_takes_4 : decode cX2_takes 4 = .ok (.aload_n 0, 1) := by decide +kernel
theorem dX2_takes_5 : decode cX2_takes 5 = .ok (.getfield 13, 3) := by decide +kernel
theorem dX2_takes_8 : decode cX2_takes 8 = .ok (.invokestatic 126, 3) := by decide +kernel
theorem dX2_takes_11 : decode cX2_takes 11 = .ok (.aload_n 0, 1) := by decide +kernel
theorem dX2_takes_12 : decode cX2_takes 12 = .ok (.getfield 13, 3) := by decide +kernel
theorem dX2_takes_15 : decode cX2_takes 15 = .ok (.iload_n 1, 1) := by decide +kernel
theorem dX2_takes_16 : decode cX2_takes 16 = .ok (.invokestatic 120, 3) := by decide +kernel
theorem dX2_takes_19 : decode cX2_takes 19 = .ok (.return_, 1) := by decide +kernel
set_option maxRecDepth 20000 in
theorem ggX2_personThen_X2_isPerson : GoodIn wsX2_personThen wsX2_isPerson := goodIn_r _ [6, 7, 8, 9, 5, 10, 56, 57, 58, 59, 60, 61, 62, 63, 64, 65, 66, 67, 68, 69] (by decide +kernel) (by decide +kernel)
set_option maxRecDepth 20000 in
theorem gX2_personThen_X2_isPerson : GoodIn wsX2_personThen (wsV RX2 117 RX2 yX2_isPerson wsX2_isPerson) := goodIn_app (goodIn_of _ (by decide +kernel)) ggX2_personThen_X2_isPerson
set_option maxRecDepth 20000 in
theorem ggX2_personThen_X2_wrongBy : GoodIn wsX2_personThen wsX2_wrongBy := goodIn_r _ [13] (by decide +kernel) (by decide +kernel)
set_option maxRecDepth 20000 in
theorem gX2_personThen_X2_wrongBy : GoodIn wsX2_personThen (va_wsS RX2 133 yX2_wrongBy wsX2_wrongBy) := goodIn_app (goodIn_of _ (by decide +kernel)) ggX2_personThen_X2_wrongBy
set_option maxRecDepth 20000 in
theorem ggX2_personThen_X2_isIn : GoodIn wsX2_personThen wsX2_isIn := goodIn_r _ [10] (by decide +kernel) (by decide +kernel)
set_option maxRecDepth 20000 in
theorem gX2_personThen_X2_isIn : GoodIn wsX2_personThen (va_wsS RX2 43 yX2_isIn wsX2_isIn) := goodIn_app (goodIn_of _ (by decide +kernel)) ggX2_personThen_X2_isIn
set_option maxRecDepth 20000 in
theorem ggX2_personThen_X2_no : GoodIn wsX2_personThen wsX2_no := goodIn_r _ [17, 18, 56, 57, 58, 59, 60, 61, 62, 63, 64, 65, 66, 67, 68, 69] (by decide +kernel) (by decide +kernel)
set_option maxRecDepth 20000 in
theorem gX2_personThen_X2_no : GoodIn wsX2_personThen (wsV RX2 39 RX2 yX2_no wsX2_no) := goodIn_app (goodIn_of _ (by decide +kernel)) ggX2_personThen_X2_no
set_option maxRecDepth 20000 in
theorem ggX2_personThen_X2_takes : GoodIn wsX2_personThen wsX2_takes := goodIn_r _ [22, 7, 1, 23, 24, 5, 25, 26, 27, 28, 29, 30, 31, 32, 33, 34, 35, 36, 37, 38, 39, 40, 41, 42, 43, 44, 45, 46, 47, 48, 49, 50, 51, 52, 53, 54, 55, 56, 57, 58, 59, 60, 61, 62, 63, 64, 65, 66, 67, 68, 69] (by decide +kernel) (by decide +kernel)
set_option maxRecDepth 20000 in
theorem gX2_personThen_X2_takes : GoodIn wsX2_personThen (wsV RX2 147 RX2 yX2_takes wsX2_takes) := goodIn_app (goodIn_of _ (by decide +kernel)) ggX2_personThen_X2_takes
set_option maxRecDepth 20000 in
theorem ggX2_personThen_X2_of : GoodIn wsX2_personThen wsX2_of := goodIn_r _ [40] (by decide +kernel) (by decide +kernel)
set_option maxRecDepth 20000 in
theorem gX2_personThen_X2_of : GoodIn wsX2_personThen (va_wsS RX2 47 yX2_of wsX2_of) := goodIn_app (goodIn_of _ (by decide +kernel)) ggX2_personThen_X2_of
theorem dX2_personThen_0 : decode cX2_personThen 0 = .ok (.aload_n 0, 1) := by decide +kernel
theorem dX2_personThen_1 : decode cX2_personThen 1 = .ok (.iload_n 1, 1) := by decide +kernel
theorem dX2_personThen_2 : decode cX2_personThen 2 = .ok (.invokevirtual 117, 3) := by decide +kernel
theorem dX2_personThen_5 : decode cX2_personThen 5 = .ok (.ifCond .eq 13, 3) := by decide +kernel
theorem dX2_personThen_8 : decode cX2_personThen 8 = .ok (.iload_n 2, 1) := by decide +kernel
theorem dX2_personThen_9 : decode cX2_personThen 9 = .ok (.iconst 0, 1) := by decide +kernel
theorem dX2_personThen_10 : decode cX2_personThen 10 = .ok (.bipush 60, 2) := by decide +kernel
theorem dX2_personThen_12 : decode cX2_personThen 12 = .ok (.invokestatic 133, 3) := by decide +kernel
theorem dX2_personThen_15 : decode cX2_personThen 15 = .ok (.goto 4, 3) := by decide +kernel
theorem dX2_personThen_18 : decode cX2_personThen 18 = .ok (.iconst (-1), 1) := by decide +kernel
theorem dX2_personThen_19 : decode cX2_personThen 19 = .ok (.istore 4, 2) := by decide +kernel
theorem dX2_personThen_21 : decode cX2_personThen 21 = .ok (.iload 4, 2) := by decide +kernel
theorem dX2_personThen_23 : decode cX2_personThen 23 = .ok (.ifCond .ne 16, 3) := by decide +kernel
theorem dX2_personThen_26 : decode cX2_personThen 26 = .ok (.iload_n 3, 1) := by decide +kernel
theorem dX2_personThen_27 : decode cX2_personThen 27 = .ok (.iconst 0, 1) := by decide +kernel
theorem dX2_personThen_28 : decode cX2_personThen 28 = .ok (.iconst 2, 1) := by decide +kernel
theorem dX2_personThen_29 : decode cX2_personThen 29 = .ok (.invokestatic 43, 3) := by decide +kernel
theorem dX2_personThen_32 : decode cX2_personThen 32 = .ok (.ifCond .ne 7, 3) := by decide +kernel
theorem dX2_personThen_35 : decode cX2_personThen 35 = .ok (.bipush (-2), 2) := by decide +kernel
theorem dX2_personThen_37 : decode cX2_personThen 37 = .ok (.istore 4, 2) := by decide +kernel
theorem dX2_personThen_39 : decode cX2_personThen 39 = .ok (.iload 4, 2) := by decide +kernel
theorem dX2_personThen_41 : decode cX2_personThen 41 = .ok (.ifCond .eq 10, 3) := by decide +kernel
theorem dX2_personThen_44 : decode cX2_personThen 44 = .ok (.aload_n 0, 1) := by decide +kernel
theorem dX2_personThen_45 : decode cX2_personThen 45 = .ok (.iload 4, 2) := by decide +kernel
theorem dX2_personThen_47 : decode cX2_personThen 47 = .ok (.invokevirtual 39, 3) := by decide +kernel
theorem dX2_personThen_50 : decode cX2_personThen 50 = .ok (.ireturn, 1) := by decide +kernel
theorem dX2_personThen_51 : decode cX2_personThen 51 = .ok (.aload_n 0, 1) := by decide +kernel
theorem dX2_personThen_52 : decode cX2_personThen 52 = .ok (.iload_n 2, 1) := by decide +kernel
theorem dX2_personThen_53 : decode cX2_personThen 53 = .ok (.invokevirtual 147, 3) := by decide +kernel
theorem dX2_personThen_56 : decode cX2_personThen 56 = .ok (.aload_n 0, 1) := by decide +kernel
theorem dX2_personThen_57 : decode cX2_personThen 57 = .ok (.getfield 13, 3) := by decide +kernel
theorem dX2_personThen_60 : decode cX2_personThen 60 = .ok (.iload_n 1, 1) := by decide +kernel
theorem dX2_personThen_61 : decode cX2_personThen 61 = .ok (.iload_n 3, 1) := by decide +kernel
theorem dX2_personThen_62 : decode cX2_personThen 62 = .ok (.invokestatic 47, 3) := by decide +kernel
theorem dX2_personThen_65 : decode cX2_personThen 65 = .ok (.iaload, 1) := by decide +kernel
theorem dX2_personThen_66 : decode cX2_personThen 66 = .ok (.ireturn, 1) := by decide +kernel
set_option maxRecDepth 20000 in
theorem ggX2_wetThen_X2_isNode : GoodIn wsX2_wetThen wsX2_isNode := goodIn_r _ [5, 6, 7, 4, 8] (by decide +kernel) (by decide +kernel)
set_option maxRecDepth 20000 in
theorem gX2_wetThen_X2_isNode : GoodIn wsX2_wetThen (va_wsS RX2 106 yX2_isNode wsX2_isNode) := goodIn_app (goodIn_of _ (by decide +kernel)) ggX2_wetThen_X2_isNode
set_option maxRecDepth 20000 in
theorem ggX2_wetThen_X2_wrongBy : GoodIn wsX2_wetThen wsX2_wrongBy := goodIn_r _ [11] (by decide +kernel) (by decide +kernel)
set_option maxRecDepth 20000 in
theorem gX2_wetThen_X2_wrongBy : GoodIn wsX2_wetThen (va_wsS RX2 133 yX2_wrongBy wsX2_wrongBy) := goodIn_app (goodIn_of _ (by decide +kernel)) ggX2_wetThen_X2_wrongBy
set_option maxRecDepth 20000 in
theorem ggX2_wetThen_X2_no : GoodIn wsX2_wetThen wsX2_no := goodIn_r _ [15, 16, 55, 56, 57, 58, 59, 60, 61, 62, 63, 64, 65, 66, 67, 68] (by decide +kernel) (by decide +kernel)
set_option maxRecDepth 20000 in
theorem gX2_wetThen_X2_no : GoodIn wsX2_wetThen (wsV RX2 39 RX2 yX2_no wsX2_no) := goodIn_app (goodIn_of _ (by decide +kernel)) ggX2_wetThen_X2_no
set_option maxRecDepth 20000 in
theorem ggX2_wetThen_X2_takes : GoodIn wsX2_wetThen wsX2_takes := goodIn_r _ [20, 21, 1, 22, 23, 4, 24, 25, 26, 27, 28, 29, 30, 31, 32, 33, 34, 35, 36, 37, 38, 39, 40, 41, 42, 43, 44, 45, 46, 47, 48, 49, 50, 51, 52, 53, 54, 55, 56, 57, 58, 59, 60, 61, 62, 63, 64, 65, 66, 67, 68] (by decide +kernel) (by decide +kernel)
set_option maxRecDepth 20000 in
theorem gX2_wetThen_X2_takes : GoodIn wsX2_wetThen (wsV RX2 147 RX2 yX2_takes wsX2_takes) := goodIn_app (goodIn_of _ (by decide +kernel)) ggX2_wetThen_X2_takes
theorem dX2_wetThen_0 : decode cX2_wetThen 0 = .ok (.iload_n 1, 1) := by decide +kernel
theorem dX2_wetThen_1 : decode cX2_wetThen 1 = .ok (.invokestatic 106, 3) := by decide +kernel
theorem dX2_wetThen_4 : decode cX2_wetThen 4 = .ok (.ifCond .eq 13, 3) := by decide +kernel
theorem dX2_wetThen_7 : decode cX2_wetThen 7 = .ok (.iload_n 2, 1) := by decide +kernel
theorem dX2_wetThen_8 : decode cX2_wetThen 8 = .ok (.iconst 0, 1) := by decide +kernel
theorem dX2_wetThen_9 : decode cX2_wetThen 9 = .ok (.bipush 60, 2) := by decide +kernel
theorem dX2_wetThen_11 : decode cX2_wetThen 11 = .ok (.invokestatic 133, 3) := by decide +kernel
theorem dX2_wetThen_14 : decode cX2_wetThen 14 = .ok (.goto 4, 3) := by decide +kernel
theorem dX2_wetThen_17 : decode cX2_wetThen 17 = .ok (.iconst (-1), 1) := by decide +kernel
theorem dX2_wetThen_18 : decode cX2_wetThen 18 = .ok (.istore_n 3, 1) := by decide +kernel
theorem dX2_wetThen_19 : decode cX2_wetThen 19 = .ok (.iload_n 3, 1) := by decide +kernel
theorem dX2_wetThen_20 : decode cX2_wetThen 20 = .ok (.ifCond .eq 9, 3) := by decide +kernel
theorem dX2_wetThen_23 : decode cX2_wetThen 23 = .ok (.aload_n 0, 1) := by decide +kernel
theorem dX2_wetThen_24 : decode cX2_wetThen 24 = .ok (.iload_n 3, 1) := by decide +kernel
theorem dX2_wetThen_25 : decode cX2_wetThen 25 = .ok (.invokevirtual 39, 3) := by decide +kernel
theorem dX2_wetThen_28 : decode cX2_wetThen 28 = .ok (.ireturn, 1) := by decide +kernel
theorem dX2_wetThen_29 : decode cX2_wetThen 29 = .ok (.aload_n 0, 1) := by decide +kernel
theorem dX2_wetThen_30 : decode cX2_wetThen 30 = .ok (.iload_n 2, 1) := by decide +kernel
theorem dX2_wetThen_31 : decode cX2_wetThen 31 = .ok (.invokevirtual 147, 3) := by decide +kernel
theorem dX2_wetThen_34 : decode cX2_wetThen 34 = .ok (.aload_n 0, 1) := by decide +kernel
theorem dX2_wetThen_35 : decode cX2_wetThen 35 = .ok (.getfield 13, 3) := by decide +kernel
theorem dX2_wetThen_38 : decode cX2_wetThen 38 = .ok (.bipush 63, 2) := by decide +kernel
theorem dX2_wetThen_40 : decode cX2_wetThen 40 = .ok (.iload_n 1, 1) := by decide +kernel
theorem dX2_wetThen_41 : decode cX2_wetThen 41 = .ok (.iadd, 1) := by decide +kernel
theorem dX2_wetThen_42 : decode cX2_wetThen 42 = .ok (.iaload, 1) := by decide +kernel
theorem dX2_wetThen_43 : decode cX2_wetThen 43 = .ok (.ireturn, 1) := by decide +kernel
set_option maxRecDepth 20000 in
theorem ggX2_comesTo_X2_of : GoodIn wsX2_comesTo wsX2_of := goodIn_r _ [5] (by decide +kernel) (by decide +kernel)
set_option maxRecDepth 20000 in
theorem gX2_comesTo_X2_of : GoodIn wsX2_comesTo (va_wsS RX2 47 yX2_of wsX2_of) := goodIn_app (goodIn_of _ (by decide +kernel)) ggX2_comesTo_X2_of
set_option maxRecDepth 20000 in
theorem ggX2_comesTo_X2_step : GoodIn wsX2_comesTo wsX2_step := goodIn_r _ [8, 9, 10, 4, 11, 12, 13, 14, 2, 3, 5, 15, 16, 17, 18, 19, 20, 21, 22, 23, 24, 25, 26, 27, 28, 29] (by decide +kernel) (by decide +kernel)
set_option maxRecDepth 20000 in
theorem gX2_comesTo_X2_step : GoodIn wsX2_comesTo (va_wsS RX2 77 yX2_step wsX2_step) := goodIn_app (goodIn_of _ (by decide +kernel)) ggX2_comesTo_X2_step
theorem dX2_comesTo_0 : decode cX2_comesTo 0 = .ok (.iconst 0, 1) := by decide +kernel
theorem dX2_comesTo_1 : decode cX2_comesTo 1 = .ok (.istore_n 3, 1) := by decide +kernel
theorem dX2_comesTo_2 : decode cX2_comesTo 2 = .ok (.iload_n 3, 1) := by decide +kernel
theorem dX2_comesTo_3 : decode cX2_comesTo 3 = .ok (.bipush 60, 2) := by decide +kernel
theorem dX2_comesTo_5 : decode cX2_comesTo 5 = .ok (.if_icmp .gt 32, 3) := by decide +kernel
theorem dX2_comesTo_8 : decode cX2_comesTo 8 = .ok (.aload_n 0, 1) := by decide +kernel
theorem dX2_comesTo_9 : decode cX2_comesTo 9 = .ok (.getfield 13, 3) := by decide +kernel
theorem dX2_comesTo_12 : decode cX2_comesTo 12 = .ok (.iload_n 1, 1) := by decide +kernel
theorem dX2_comesTo_13 : decode cX2_comesTo 13 = .ok (.iconst 0, 1) := by decide +kernel
theorem dX2_comesTo_14 : decode cX2_comesTo 14 = .ok (.invokestatic 47, 3) := by decide +kernel
theorem dX2_comesTo_17 : decode cX2_comesTo 17 = .ok (.iaload, 1) := by decide +kernel
theorem dX2_comesTo_18 : decode cX2_comesTo 18 = .ok (.iload_n 2, 1) := by decide +kernel
theorem dX2_comesTo_19 : decode cX2_comesTo 19 = .ok (.if_icmp .ne 5, 3) := by decide +kernel
theorem dX2_comesTo_22 : decode cX2_comesTo 22 = .ok (.iload_n 3, 1) := by decide +kernel
theorem dX2_comesTo_23 : decode cX2_comesTo 23 = .ok (.ireturn, 1) := by decide +kernel
theorem dX2_comesTo_24 : decode cX2_comesTo 24 = .ok (.aload_n 0, 1) := by decide +kernel
theorem dX2_comesTo_25 : decode cX2_comesTo 25 = .ok (.getfield 13, 3) := by decide +kernel
theorem dX2_comesTo_28 : decode cX2_comesTo 28 = .ok (.invokestatic 77, 3) := by decide +kernel
theorem dX2_comesTo_31 : decode cX2_comesTo 31 = .ok (.iinc 3 1, 3) := by decide +kernel
theorem dX2_comesTo_34 : decode cX2_comesTo 34 = .ok (.goto (-32), 3) := by decide +kernel
theorem dX2_comesTo_37 : decode cX2_comesTo 37 = .ok (.bipush (-9), 2) := by decide +kernel
theorem dX2_comesTo_39 : decode cX2_comesTo 39 = .ok (.ireturn, 1) := by decide +kernel
set_option maxRecDepth 20000 in
theorem ggX2_comes_X2_areThere : GoodIn wsX2_comes wsX2_areThere := goodIn_r _ [7, 8, 9, 10, 6, 11, 1, 12, 13, 14, 15, 16, 17, 57, 58, 59, 60, 61, 62, 63, 64, 65, 66, 67, 68, 69, 70] (by decide +kernel) (by decide +kernel)
set_option maxRecDepth 20000 in
theorem gX2_comes_X2_areThere : GoodIn wsX2_comes (wsV RX2 140 RX2 yX2_areThere wsX2_areThere) := goodIn_app (goodIn_of _ (by decide +kernel)) ggX2_comes_X2_areThere
set_option maxRecDepth 20000 in
theorem ggX2_comes_X2_no : GoodIn wsX2_comes wsX2_no := goodIn_r _ [21, 22, 57, 58, 59, 60, 61, 62, 63, 64, 65, 66, 67, 68, 69, 70] (by decide +kernel) (by decide +kernel)
set_option maxRecDepth 20000 in
theorem gX2_comes_X2_no : GoodIn wsX2_comes (wsV RX2 39 RX2 yX2_no wsX2_no) := goodIn_app (goodIn_of _ (by decide +kernel)) ggX2_comes_X2_no
set_option maxRecDepth 20000 in
theorem ggX2_comes_X2_copies : GoodIn wsX2_comes wsX2_copies := goodIn_r _ [25] (by decide +kernel) (by decide +kernel)
set_option maxRecDepth 20000 in
theorem gX2_comes_X2_copies : GoodIn wsX2_comes (va_wsS RX2 126 yX2_copies wsX2_copies) := goodIn_app (goodIn_of _ (by decide +kernel)) ggX2_comes_X2_copies
set_option maxRecDepth 20000 in
theorem ggX2_comes_X2_comesTo : GoodIn wsX2_comes wsX2_comesTo := goodIn_r _ [29, 2, 30, 31, 6, 32, 33, 34, 35, 36, 37, 38, 39, 40, 41, 42, 43, 44, 45, 46, 47, 48, 49, 50, 51, 52, 53, 54, 55, 56, 57, 58, 59, 60, 61, 62, 63, 64, 65, 66, 67, 68, 69, 70] (by decide +kernel) (by decide +kernel)
set_option maxRecDepth 20000 in
theorem gX2_comes_X2_comesTo : GoodIn wsX2_comes (wsV RX2 151 RX2 yX2_comesTo wsX2_comesTo) := goodIn_app (goodIn_of _ (by decide +kernel)) ggX2_comes_X2_comesTo
theorem dX2_comes_0 : decode cX2_comes 0 = .ok (.aload_n 0, 1) := by decide +kernel
theorem dX2_comes_1 : decode cX2_comes 1 = .ok (.iload_n 1, 1) := by decide +kernel
theorem dX2_comes_2 : decode cX2_comes 2 = .ok (.iload_n 2, 1) := by decide +kernel
theorem dX2_comes_3 : decode cX2_comes 3 = .ok (.invokevirtual 140, 3) := by decide +kernel
theorem dX2_comes_6 : decode cX2_comes 6 = .ok (.ifCond .ne 9, 3) := by decide +kernel
theorem dX2_comes_9 : decode cX2_comes 9 = .ok (.aload_n 0, 1) := by decide +kernel
theorem dX2_comes_10 : decode cX2_comes 10 = .ok (.iconst (-1), 1) := by decide +kernel
theorem dX2_comes_11 : decode cX2_comes 11 = .ok (.invokevirtual 39, 3) := by decide +kernel
theorem dX2_comes_14 : decode cX2_comes 14 = .ok (.ireturn, 1) := by decide +kernel
theorem dX2_comes_15 : decode cX2_comes 15 = .ok (.aload_n 0, 1) := by decide +kernel
theorem dX2_comes_16 : decode cX2_comes 16 = .ok (.getfield 9, 3) := by decide +kernel
theorem dX2_comes_19 : decode cX2_comes 19 = .ok (.aload_n 0, 1) := by decide +kernel
theorem dX2_comes_20 : decode cX2_comes 20 = .ok (.getfield 13, 3) := by decide +kernel
theorem dX2_comes_23 : decode cX2_comes 23 = .ok (.invokestatic 126, 3) := by decide +kernel
theorem dX2_comes_26 : decode cX2_comes 26 = .ok (.aload_n 0, 1) := by decide +kernel
theorem dX2_comes_27 : decode cX2_comes 27 = .ok (.iload_n 1, 1) := by decide +kernel
theorem dX2_comes_28 : decode cX2_comes 28 = .ok (.iload_n 2, 1) := by decide +kernel
theorem dX2_comes_29 : decode cX2_comes 29 = .ok (.invokevirtual 151, 3) := by decide +kernel
theorem dX2_comes_32 : decode cX2_comes 32 = .ok (.ireturn, 1) := by decide +kernel
set_option maxRecDepth 20000 in
theorem ggX2_visitsIn_X2_of : GoodIn wsX2_visitsIn wsX2_of := goodIn_r _ [5] (by decide +kernel) (by decide +kernel)
set_option maxRecDepth 20000 in
theorem gX2_visitsIn_X2_of : GoodIn wsX2_visitsIn (va_wsS RX2 47 yX2_of wsX2_of) := goodIn_app (goodIn_of _ (by decide +kernel)) ggX2_visitsIn_X2_of
set_option maxRecDepth 20000 in
theorem ggX2_visitsIn_X2_step : GoodIn wsX2_visitsIn wsX2_step := goodIn_r _ [8, 9, 10, 4, 11, 12, 13, 14, 2, 3, 5, 15, 16, 17, 18, 19, 20, 21, 22, 23, 24, 25, 26, 27, 28, 29] (by decide +kernel) (by decide +kernel)
set_option maxRecDepth 20000 in
theorem gX2_visitsIn_X2_step : GoodIn wsX2_visitsIn (va_wsS RX2 77 yX2_step wsX2_step) := goodIn_app (goodIn_of _ (by decide +kernel)) ggX2_visitsIn_X2_step
set_option maxRecDepth 20000 in
theorem ggX2_visitsIn_X2_bits : GoodIn wsX2_visitsIn wsX2_bits := goodIn_r _ [32] (by decide +kernel) (by decide +kernel)
set_option maxRecDepth 20000 in
theorem gX2_visitsIn_X2_bits : GoodIn wsX2_visitsIn (va_wsS RX2 154 yX2_bits wsX2_bits) := goodIn_app (goodIn_of _ (by decide +kernel)) ggX2_visitsIn_X2_bits
theorem dX2_visitsIn_0 : decode cX2_visitsIn 0 = .ok (.iconst 1, 1) := by decide +kernel
theorem dX2_visitsIn_1 : decode cX2_visitsIn 1 = .ok (.aload_n 0, 1) := by decide +kernel
theorem dX2_visitsIn_2 : decode cX2_visitsIn 2 = .ok (.getfield 13, 3) := by decide +kernel
theorem dX2_visitsIn_5 : decode cX2_visitsIn 5 = .ok (.iload_n 1, 1) := by decide +kernel
theorem dX2_visitsIn_6 : decode cX2_visitsIn 6 = .ok (.iconst 0, 1) := by decide +kernel
theorem dX2_visitsIn_7 : decode cX2_visitsIn 7 = .ok (.invokestatic 47, 3) := by decide +kernel
theorem dX2_visitsIn_10 : decode cX2_visitsIn 10 = .ok (.iaload, 1) := by decide +kernel
theorem dX2_visitsIn_11 : decode cX2_visitsIn 11 = .ok (.ishl, 1) := by decide +kernel
theorem dX2_visitsIn_12 : decode cX2_visitsIn 12 = .ok (.istore_n 3, 1) := by decide +kernel
theorem dX2_visitsIn_13 : decode cX2_visitsIn 13 = .ok (.iconst 0, 1) := by decide +kernel
theorem dX2_visitsIn_14 : decode cX2_visitsIn 14 = .ok (.istore 4, 2) := by decide +kernel
theorem dX2_visitsIn_16 : decode cX2_visitsIn 16 = .ok (.iload 4, 2) := by decide +kernel
theorem dX2_visitsIn_18 : decode cX2_visitsIn 18 = .ok (.iload_n 2, 1) := by decide +kernel
theorem dX2_visitsIn_19 : decode cX2_visitsIn 19 = .ok (.if_icmp .ge 31, 3) := by decide +kernel
theorem dX2_visitsIn_22 : decode cX2_visitsIn 22 = .ok (.aload_n 0, 1) := by decide +kernel
theorem dX2_visitsIn_23 : decode cX2_visitsIn 23 = .ok (.getfield 13, 3) := by decide +kernel
theorem dX2_visitsIn_26 : decode cX2_visitsIn 26 = .ok (.invokestatic 77, 3) := by decide +kernel
theorem dX2_visitsIn_29 : decode cX2_visitsIn 29 = .ok (.iload_n 3, 1) := by decide +kernel
theorem dX2_visitsIn_30 : decode cX2_visitsIn 30 = .ok (.iconst 1, 1) := by decide +kernel
theorem dX2_visitsIn_31 : decode cX2_visitsIn 31 = .ok (.aload_n 0, 1) := by decide +kernel
theorem dX2_visitsIn_32 : decode cX2_visitsIn 32 = .ok (.getfield 13, 3) := by decide +kernel
theorem dX2_visitsIn_35 : decode cX2_visitsIn 35 = .ok (.iload_n 1, 1) := by decide +kernel
theorem dX2_visitsIn_36 : decode cX2_visitsIn 36 = .ok (.iconst 0, 1) := by decide +kernel
theorem dX2_visitsIn_37 : decode cX2_visitsIn 37 = .ok (.invokestatic 47, 3) := by decide +kernel
theorem dX2_visitsIn_40 : decode cX2_visitsIn 40 = .ok (.iaload, 1) := by decide +kernel
theorem dX2_visitsIn_41 : decode cX2_visitsIn 41 = .ok (.ishl, 1) := by decide +kernel
theorem dX2_visitsIn_42 : decode cX2_visitsIn 42 = .ok (.ior, 1) := by decide +kernel
theorem dX2_visitsIn_43 : decode cX2_visitsIn 43 = .ok (.istore_n 3, 1) := by decide +kernel
theorem dX2_visitsIn_44 : decode cX2_visitsIn 44 = .ok (.iinc 4 1, 3) := by decide +kernel
theorem dX2_visitsIn_47 : decode cX2_visitsIn 47 = .ok (.goto (-31), 3) := by decide +kernel
theorem dX2_visitsIn_50 : decode cX2_visitsIn 50 = .ok (.iload_n 3, 1) := by decide +kernel
theorem dX2_visitsIn_51 : decode cX2_visitsIn 51 = .ok (.invokestatic 154, 3) := by decide +kernel
theorem dX2_visitsIn_54 : decode cX2_visitsIn 54 = .ok (.ireturn, 1) := by decide +kernel
set_option maxRecDepth 20000 in
theorem ggX2_visitsNow_X2_copies : GoodIn wsX2_visitsNow wsX2_copies := goodIn_r _ [6] (by decide +kernel) (by decide +kernel)
set_option maxRecDepth 20000 in
theorem gX2_visitsNow_X2_copies : GoodIn wsX2_visitsNow (va_wsS RX2 126 yX2_copies wsX2_copies) := goodIn_app (goodIn_of _ (by decide +kernel)) ggX2_visitsNow_X2_copies
set_option maxRecDepth 20000 in
theorem ggX2_visitsNow_X2_visitsIn : GoodIn wsX2_visitsNow wsX2_visitsIn := goodIn_r _ [10, 2, 11, 12, 5, 13, 14, 15, 16, 17, 18, 19, 20, 21, 22, 23, 24, 25, 26, 27, 28, 29, 30, 31, 32, 33, 34, 35, 36, 37, 38, 39, 40, 41, 42, 43, 44, 45, 46, 47, 48, 49, 50, 51, 52, 53, 54] (by decide +kernel) (by decide +kernel)
set_option maxRecDepth 20000 in
theorem gX2_visitsNow_X2_visitsIn : GoodIn wsX2_visitsNow (wsV RX2 157 RX2 yX2_visitsIn wsX2_visitsIn) := goodIn_app (goodIn_of _ (by decide +kernel)) ggX2_visitsNow_X2_visitsIn
theorem dX2_visitsNow_0 : decode cX2_visitsNow 0 = .ok (.aload_n 0, 1) := by decide +kernel
theorem dX2_visitsNow_1 : decode cX2_visitsNow 1 = .ok (.getfield 9, 3) := by decide +kernel
theorem dX2_visitsNow_4 : decode cX2_visitsNow 4 = .ok (.aload_n 0, 1) := by decide +kernel
theorem dX2_visitsNow_5 : decode cX2_visitsNow 5 = .ok (.getfield 13, 3) := by decide +kernel
theorem dX2_visitsNow_8 : decode cX2_visitsNow 8 = .ok (.invokestatic 126, 3) := by decide +kernel
theorem dX2_visitsNow_11 : decode cX2_visitsNow 11 = .ok (.aload_n 0, 1) := by decide +kernel
theorem dX2_visitsNow_12 : decode cX2_visitsNow 12 = .ok (.iload_n 1, 1) := by decide +kernel
theorem dX2_visitsNow_13 : decode cX2_visitsNow 13 = .ok (.iload_n 2, 1) := by decide +kernel
theorem dX2_visitsNow_14 : decode cX2_visitsNow 14 = .ok (.invokevirtual 157, 3) := by decide +kernel
theorem dX2_visitsNow_17 : decode cX2_visitsNow 17 = .ok (.ireturn, 1) := by decide +kernel
set_option maxRecDepth 20000 in
theorem ggX2_visits_X2_isPerson : GoodIn wsX2_visits wsX2_isPerson := goodIn_r _ [5, 6, 7, 8, 4, 9, 60, 61, 62, 63, 64, 65, 66, 67, 68, 69, 70, 71, 72, 73] (by decide +kernel) (by decide +kernel)
set_option maxRecDepth 20000 in
theorem gX2_visits_X2_isPerson : GoodIn wsX2_visits (wsV RX2 117 RX2 yX2_isPerson wsX2_isPerson) := goodIn_app (goodIn_of _ (by decide +kernel)) ggX2_visits_X2_isPerson
set_option maxRecDepth 20000 in
theorem ggX2_visits_X2_wrongBy : GoodIn wsX2_visits wsX2_wrongBy := goodIn_r _ [12] (by decide +kernel) (by decide +kernel)
set_option maxRecDepth 20000 in
theorem gX2_visits_X2_wrongBy : GoodIn wsX2_visits (va_wsS RX2 133 yX2_wrongBy wsX2_wrongBy) := goodIn_app (goodIn_of _ (by decide +kernel)) ggX2_visits_X2_wrongBy
set_option maxRecDepth 20000 in
theorem ggX2_visits_X2_no : GoodIn wsX2_visits wsX2_no := goodIn_r _ [16, 17, 60, 61, 62, 63, 64, 65, 66, 67, 68, 69, 70, 71, 72, 73] (by decide +kernel) (by decide +kernel)
set_option maxRecDepth 20000 in
theorem gX2_visits_X2_no : GoodIn wsX2_visits (wsV RX2 39 RX2 yX2_no wsX2_no) := goodIn_app (goodIn_of _ (by decide +kernel)) ggX2_visits_X2_no
set_option maxRecDepth 20000 in
theorem ggX2_visits_X2_visitsNow : GoodIn wsX2_visits wsX2_visitsNow := goodIn_r _ [21, 6, 22, 23, 24, 4, 25, 26, 27, 28, 29, 30, 31, 32, 33, 34, 35, 36, 37, 38, 39, 40, 41, 42, 43, 44, 45, 46, 47, 48, 49, 50, 51, 52, 53, 54, 55, 56, 57, 58, 59, 60, 61, 62, 63, 64, 65, 66, 67, 68, 69, 70, 71, 72, 73] (by decide +kernel) (by decide +kernel)
set_option maxRecDepth 20000 in
theorem gX2_visits_X2_visitsNow : GoodIn wsX2_visits (wsV RX2 160 RX2 yX2_visitsNow wsX2_visitsNow) := goodIn_app (goodIn_of _ (by decide +kernel)) ggX2_visits_X2_visitsNow
theorem dX2_visits_0 : decode cX2_visits 0 = .ok (.aload_n 0, 1) := by decide +kernel
theorem dX2_visits_1 : decode cX2_visits 1 = .ok (.iload_n 1, 1) := by decide +kernel
theorem dX2_visits_2 : decode cX2_visits 2 = .ok (.invokevirtual 117, 3) := by decide +kernel
theorem dX2_visits_5 : decode cX2_visits 5 = .ok (.ifCond .eq 13, 3) := by decide +kernel
theorem dX2_visits_8 : decode cX2_visits 8 = .ok (.iload_n 2, 1) := by decide +kernel
theorem dX2_visits_9 : decode cX2_visits 9 = .ok (.iconst 0, 1) := by decide +kernel
theorem dX2_visits_10 : decode cX2_visits 10 = .ok (.bipush 60, 2) := by decide +kernel
theorem dX2_visits_12 : decode cX2_visits 12 = .ok (.invokestatic 133, 3) := by decide +kernel
theorem dX2_visits_15 : decode cX2_visits 15 = .ok (.goto 4, 3) := by decide +kernel
theorem dX2_visits_18 : decode cX2_visits 18 = .ok (.iconst (-1), 1) := by decide +kernel
theorem dX2_visits_19 : decode cX2_visits 19 = .ok (.istore_n 3, 1) := by decide +kernel
theorem dX2_visits_20 : decode cX2_visits 20 = .ok (.iload_n 3, 1) := by decide +kernel
theorem dX2_visits_21 : decode cX2_visits 21 = .ok (.ifCond .eq 11, 3) := by decide +kernel
theorem dX2_visits_24 : decode cX2_visits 24 = .ok (.aload_n 0, 1) := by decide +kernel
theorem dX2_visits_25 : decode cX2_visits 25 = .ok (.iload_n 3, 1) := by decide +kernel
theorem dX2_visits_26 : decode cX2_visits 26 = .ok (.invokevirtual 39, 3) := by decide +kernel
theorem dX2_visits_29 : decode cX2_visits 29 = .ok (.goto 9, 3) := by decide +kernel
theorem dX2_visits_32 : decode cX2_visits 32 = .ok (.aload_n 0, 1) := by decide +kernel
theorem dX2_visits_33 : decode cX2_visits 33 = .ok (.iload_n 1, 1) := by decide +kernel
theorem dX2_visits_34 : decode cX2_visits 34 = .ok (.iload_n 2, 1) := by decide +kernel
theorem dX2_visits_35 : decode cX2_visits 35 = .ok (.invokevirtual 160, 3) := by decide +kernel
theorem dX2_visits_38 : decode cX2_visits 38 = .ok (.ireturn, 1) := by decide +kernel
set_option maxRecDepth 20000 in
theorem ggX2_stops_X2_isPerson : GoodIn wsX2_stops wsX2_isPerson := goodIn_r _ [7, 1, 8, 9, 6, 10, 46, 47, 48, 49, 50, 51, 52, 53, 54, 55, 56, 57, 58, 59] (by decide +kernel) (by decide +kernel)
set_option maxRecDepth 20000 in
theorem gX2_stops_X2_isPerson : GoodIn wsX2_stops (wsV RX2 117 RX2 yX2_isPerson wsX2_isPerson) := goodIn_app (goodIn_of _ (by decide +kernel)) ggX2_stops_X2_isPerson
set_option maxRecDepth 20000 in
theorem ggX2_stops_X2_no : GoodIn wsX2_stops wsX2_no := goodIn_r _ [14, 15, 46, 47, 48, 49, 50, 51, 52, 53, 54, 55, 56, 57, 58, 59] (by decide +kernel) (by decide +kernel)
set_option maxRecDepth 20000 in
theorem gX2_stops_X2_no : GoodIn wsX2_stops (wsV RX2 39 RX2 yX2_no wsX2_no) := goodIn_app (goodIn_of _ (by decide +kernel)) ggX2_stops_X2_no
set_option maxRecDepth 20000 in
theorem ggX2_stops_X2_copies : GoodIn wsX2_stops wsX2_copies := goodIn_r _ [18] (by decide +kernel) (by decide +kernel)
set_option maxRecDepth 20000 in
theorem gX2_stops_X2_copies : GoodIn wsX2_stops (va_wsS RX2 126 yX2_copies wsX2_copies) := goodIn_app (goodIn_of _ (by decide +kernel)) ggX2_stops_X2_copies
set_option maxRecDepth 20000 in
theorem ggX2_stops_X2_of : GoodIn wsX2_stops wsX2_of := goodIn_r _ [21] (by decide +kernel) (by decide +kernel)
set_option maxRecDepth 20000 in
theorem gX2_stops_X2_of : GoodIn wsX2_stops (va_wsS RX2 47 yX2_of wsX2_of) := goodIn_app (goodIn_of _ (by decide +kernel)) ggX2_stops_X2_of
set_option maxRecDepth 20000 in
theorem ggX2_stops_X2_isDry : GoodIn wsX2_stops wsX2_isDry := goodIn_r _ [24] (by decide +kernel) (by decide +kernel)
set_option maxRecDepth 20000 in
theorem gX2_stops_X2_isDry : GoodIn wsX2_stops (va_wsS RX2 55 yX2_isDry wsX2_isDry) := goodIn_app (goodIn_of _ (by decide +kernel)) ggX2_stops_X2_isDry
set_option maxRecDepth 20000 in
theorem ggX2_stops_X2_step : GoodIn wsX2_stops wsX2_step := goodIn_r _ [27, 28, 29, 6, 30, 31, 32, 33, 19, 20, 21, 22, 23, 24, 34, 35, 36, 37, 38, 39, 40, 41, 42, 43, 44, 45] (by decide +kernel) (by decide +kernel)
set_option maxRecDepth 20000 in
theorem gX2_stops_X2_step : GoodIn wsX2_stops (va_wsS RX2 77 yX2_step wsX2_step) := goodIn_app (goodIn_of _ (by decide +kernel)) ggX2_stops_X2_step
theorem dX2_stops_0 : decode cX2_stops 0 = .ok (.aload_n 0, 1) := by decide +kernel
theorem dX2_stops_1 : decode cX2_stops 1 = .ok (.iload_n 1, 1) := by decide +kernel
theorem dX2_stops_2 : decode cX2_stops 2 = .ok (.invokevirtual 117, 3) := by decide +kernel
theorem dX2_stops_5 : decode cX2_stops 5 = .ok (.ifCond .ne 9, 3) := by decide +kernel
theorem dX2_stops_8 : decode cX2_stops 8 = .ok (.aload_n 0, 1) := by decide +kernel
theorem dX2_stops_9 : decode cX2_stops 9 = .ok (.iconst (-1), 1) := by decide +kernel
theorem dX2_stops_10 : decode cX2_stops 10 = .ok (.invokevirtual 39, 3) := by decide +kernel
theorem dX2_stops_13 : decode cX2_stops 13 = .ok (.ireturn, 1) := by decide +kernel
theorem dX2_stops_14 : decode cX2_stops 14 = .ok (.aload_n 0, 1) := by decide +kernel
theorem dX2_stops_15 : decode cX2_stops 15 = .ok (.getfield 9, 3) := by decide +kernel
theorem dX2_stops_18 : decode cX2_stops 18 = .ok (.aload_n 0, 1) := by decide +kernel
theorem dX2_stops_19 : decode cX2_stops 19 = .ok (.getfield 13, 3) := by decide +kernel
theorem dX2_stops_22 : decode cX2_stops 22 = .ok (.invokestatic 126, 3) := by decide +kernel
theorem dX2_stops_25 : decode cX2_stops 25 = .ok (.iconst 0, 1) := by decide +kernel
theorem dX2_stops_26 : decode cX2_stops 26 = .ok (.istore_n 2, 1) := by decide +kernel
theorem dX2_stops_27 : decode cX2_stops 27 = .ok (.iload_n 2, 1) := by decide +kernel
theorem dX2_stops_28 : decode cX2_stops 28 = .ok (.bipush 60, 2) := by decide +kernel
theorem dX2_stops_30 : decode cX2_stops 30 = .ok (.if_icmp .gt 38, 3) := by decide +kernel
theorem dX2_stops_33 : decode cX2_stops 33 = .ok (.aload_n 0, 1) := by decide +kernel
theorem dX2_stops_34 : decode cX2_stops 34 = .ok (.getfield 13, 3) := by decide +kernel
theorem dX2_stops_37 : decode cX2_stops 37 = .ok (.aload_n 0, 1) := by decide +kernel
theorem dX2_stops_38 : decode cX2_stops 38 = .ok (.getfield 13, 3) := by decide +kernel
theorem dX2_stops_41 : decode cX2_stops 41 = .ok (.iload_n 1, 1) := by decide +kernel
theorem dX2_stops_42 : decode cX2_stops 42 = .ok (.iconst 0, 1) := by decide +kernel
theorem dX2_stops_43 : decode cX2_stops 43 = .ok (.invokestatic 47, 3) := by decide +kernel
theorem dX2_stops_46 : decode cX2_stops 46 = .ok (.iaload, 1) := by decide +kernel
theorem dX2_stops_47 : decode cX2_stops 47 = .ok (.invokestatic 55, 3) := by decide +kernel
theorem dX2_stops_50 : decode cX2_stops 50 = .ok (.ifCond .eq 5, 3) := by decide +kernel
theorem dX2_stops_53 : decode cX2_stops 53 = .ok (.iload_n 2, 1) := by decide +kernel
theorem dX2_stops_54 : decode cX2_stops 54 = .ok (.ireturn, 1) := by decide +kernel
theorem dX2_stops_55 : decode cX2_stops 55 = .ok (.aload_n 0, 1) := by decide +kernel
theorem dX2_stops_56 : decode cX2_stops 56 = .ok (.getfield 13, 3) := by decide +kernel
theorem dX2_stops_59 : decode cX2_stops 59 = .ok (.invokestatic 77, 3) := by decide +kernel
theorem dX2_stops_62 : decode cX2_stops 62 = .ok (.iinc 2 1, 3) := by decide +kernel
theorem dX2_stops_65 : decode cX2_stops 65 = .ok (.goto (-38), 3) := by decide +kernel
theorem dX2_stops_68 : decode cX2_stops 68 = .ok (.bipush (-9), 2) := by decide +kernel
theorem dX2_stops_70 : decode cX2_stops 70 = .ok (.ireturn, 1) := by decide +kernel
set_option maxRecDepth 20000 in
theorem ggX2_areTwo_X2_isPerson : GoodIn wsX2_areTwo wsX2_isPerson := goodIn_r _ [5, 6, 7, 8, 4, 9, 10, 11, 12, 13, 14, 15, 16, 17, 18, 19, 20, 21, 22, 23] (by decide +kernel) (by decide +kernel)
set_option maxRecDepth 20000 in
theorem gX2_areTwo_X2_isPerson : GoodIn wsX2_areTwo (wsV RX2 117 RX2 yX2_isPerson wsX2_isPerson) := goodIn_app (goodIn_of _ (by decide +kernel)) ggX2_areTwo_X2_isPerson
theorem dX2_areTwo_0 : decode cX2_areTwo 0 = .ok (.aload_n 0, 1) := by decide +kernel
theorem dX2_areTwo_1 : decode cX2_areTwo 1 = .ok (.iload_n 1, 1) := by decide +kernel
theorem dX2_areTwo_2 : decode cX2_areTwo 2 = .ok (.invokevirtual 117, 3) := by decide +kernel
theorem dX2_areTwo_5 : decode cX2_areTwo 5 = .ok (.ifCond .eq 20, 3) := by decide +kernel
theorem dX2_areTwo_8 : decode cX2_areTwo 8 = .ok (.aload_n 0, 1) := by decide +kernel
theorem dX2_areTwo_9 : decode cX2_areTwo 9 = .ok (.iload_n 2, 1) := by decide +kernel
theorem dX2_areTwo_10 : decode cX2_areTwo 10 = .ok (.invokevirtual 117, 3) := by decide +kernel
theorem dX2_areTwo_13 : decode cX2_areTwo 13 = .ok (.ifCond .eq 12, 3) := by decide +kernel
theorem dX2_areTwo_16 : decode cX2_areTwo 16 = .ok (.iload_n 1, 1) := by decide +kernel
theorem dX2_areTwo_17 : decode cX2_areTwo 17 = .ok (.iload_n 2, 1) := by decide +kernel
theorem dX2_areTwo_18 : decode cX2_areTwo 18 = .ok (.if_icmp .eq 7, 3) := by decide +kernel
theorem dX2_areTwo_21 : decode cX2_areTwo 21 = .ok (.iconst 1, 1) := by decide +kernel
theorem dX2_areTwo_22 : decode cX2_areTwo 22 = .ok (.goto 4, 3) := by decide +kernel
theorem dX2_areTwo_25 : decode cX2_areTwo 25 = .ok (.iconst 0, 1) := by decide +kernel
theorem dX2_areTwo_26 : decode cX2_areTwo 26 = .ok (.ireturn, 1) := by decide +kernel
set_option maxRecDepth 20000 in
theorem ggX2_meets_X2_areTwo : GoodIn wsX2_meets wsX2_areTwo := goodIn_r _ [7, 8, 9, 10, 6, 11, 1, 12, 13, 14, 50, 51, 52, 53, 54, 55, 56, 57, 58, 59, 60, 61, 62, 63] (by decide +kernel) (by decide +kernel)
set_option maxRecDepth 20000 in
theorem gX2_meets_X2_areTwo : GoodIn wsX2_meets (wsV RX2 163 RX2 yX2_areTwo wsX2_areTwo) := goodIn_app (goodIn_of _ (by decide +kernel)) ggX2_meets_X2_areTwo
set_option maxRecDepth 20000 in
theorem ggX2_meets_X2_no : GoodIn wsX2_meets wsX2_no := goodIn_r _ [18, 19, 50, 51, 52, 53, 54, 55, 56, 57, 58, 59, 60, 61, 62, 63] (by decide +kernel) (by decide +kernel)
set_option maxRecDepth 20000 in
theorem gX2_meets_X2_no : GoodIn wsX2_meets (wsV RX2 39 RX2 yX2_no wsX2_no) := goodIn_app (goodIn_of _ (by decide +kernel)) ggX2_meets_X2_no
set_option maxRecDepth 20000 in
theorem ggX2_meets_X2_copies : GoodIn wsX2_meets wsX2_copies := goodIn_r _ [22] (by decide +kernel) (by decide +kernel)
set_option maxRecDepth 20000 in
theorem gX2_meets_X2_copies : GoodIn wsX2_meets (va_wsS RX2 126 yX2_copies wsX2_copies) := goodIn_app (goodIn_of _ (by decide +kernel)) ggX2_meets_X2_copies
set_option maxRecDepth 20000 in
theorem ggX2_meets_X2_of : GoodIn wsX2_meets wsX2_of := goodIn_r _ [25] (by decide +kernel) (by decide +kernel)
set_option maxRecDepth 20000 in
theorem gX2_meets_X2_of : GoodIn wsX2_meets (va_wsS RX2 47 yX2_of wsX2_of) := goodIn_app (goodIn_of _ (by decide +kernel)) ggX2_meets_X2_of
set_option maxRecDepth 20000 in
theorem ggX2_meets_X2_step : GoodIn wsX2_meets wsX2_step := goodIn_r _ [28, 29, 30, 6, 31, 32, 33, 34, 23, 24, 25, 35, 36, 37, 38, 39, 40, 41, 42, 43, 44, 45, 46, 47, 48, 49] (by decide +kernel) (by decide +kernel)
set_option maxRecDepth 20000 in
theorem gX2_meets_X2_step : GoodIn wsX2_meets (va_wsS RX2 77 yX2_step wsX2_step) := goodIn_app (goodIn_of _ (by decide +kernel)) ggX2_meets_X2_step
theorem dX2_meets_0 : decode cX2_meets 0 = .ok (.aload_n 0, 1) := by decide +kernel
theorem dX2_meets_1 : decode cX2_meets 1 = .ok (.iload_n 1, 1) := by decide +kernel
theorem dX2_meets_2 : decode cX2_meets 2 = .ok (.iload_n 2, 1) := by decide +kernel
theorem dX2_meets_3 : decode cX2_meets 3 = .ok (.invokevirtual 163, 3) := by decide +kernel
theorem dX2_meets_6 : decode cX2_meets 6 = .ok (.ifCond .ne 9, 3) := by decide +kernel
theorem dX2_meets_9 : decode cX2_meets 9 = .ok (.aload_n 0, 1) := by decide +kernel
theorem dX2_meets_10 : decode cX2_meets 10 = .ok (.iconst (-1), 1) := by decide +kernel
theorem dX2_meets_11 : decode cX2_meets 11 = .ok (.invokevirtual 39, 3) := by decide +kernel
theorem dX2_meets_14 : decode cX2_meets 14 = .ok (.ireturn, 1) := by decide +kernel
theorem dX2_meets_15 : decode cX2_meets 15 = .ok (.aload_n 0, 1) := by decide +kernel
theorem dX2_meets_16 : decode cX2_meets 16 = .ok (.getfield 9, 3) := by decide +kernel
theorem dX2_meets_19 : decode cX2_meets 19 = .ok (.aload_n 0, 1) := by decide +kernel
theorem dX2_meets_20 : decode cX2_meets 20 = .ok (.getfield 13, 3) := by decide +kernel
theorem dX2_meets_23 : decode cX2_meets 23 = .ok (.invokestatic 126, 3) := by decide +kernel
theorem dX2_meets_26 : decode cX2_meets 26 = .ok (.iconst 0, 1) := by decide +kernel
theorem dX2_meets_27 : decode cX2_meets 27 = .ok (.istore_n 3, 1) := by decide +kernel
theorem dX2_meets_28 : decode cX2_meets 28 = .ok (.iload_n 3, 1) := by decide +kernel
theorem dX2_meets_29 : decode cX2_meets 29 = .ok (.bipush 60, 2) := by decide +kernel
theorem dX2_meets_31 : decode cX2_meets 31 = .ok (.if_icmp .gt 41, 3) := by decide +kernel
theorem dX2_meets_34 : decode cX2_meets 34 = .ok (.aload_n 0, 1) := by decide +kernel
theorem dX2_meets_35 : decode cX2_meets 35 = .ok (.getfield 13, 3) := by decide +kernel
theorem dX2_meets_38 : decode cX2_meets 38 = .ok (.iload_n 1, 1) := by decide +kernel
theorem dX2_meets_39 : decode cX2_meets 39 = .ok (.iconst 0, 1) := by decide +kernel
theorem dX2_meets_40 : decode cX2_meets 40 = .ok (.invokestatic 47, 3) := by decide +kernel
theorem dX2_meets_43 : decode cX2_meets 43 = .ok (.iaload, 1) := by decide +kernel
theorem dX2_meets_44 : decode cX2_meets 44 = .ok (.aload_n 0, 1) := by decide +kernel
theorem dX2_meets_45 : decode cX2_meets 45 = .ok (.getfield 13, 3) := by decide +kernel
theorem dX2_meets_48 : decode cX2_meets 48 = .ok (.iload_n 2, 1) := by decide +kernel
theorem dX2_meets_49 : decode cX2_meets 49 = .ok (.iconst 0, 1) := by decide +kernel
theorem dX2_meets_50 : decode cX2_meets 50 = .ok (.invokestatic 47, 3) := by decide +kernel
theorem dX2_meets_53 : decode cX2_meets 53 = .ok (.iaload, 1) := by decide +kernel
theorem dX2_meets_54 : decode cX2_meets 54 = .ok (.if_icmp .ne 5, 3) := by decide +kernel
theorem dX2_meets_57 : decode cX2_meets 57 = .ok (.iload_n 3, 1) := by decide +kernel
theorem dX2_meets_58 : decode cX2_meets 58 = .ok (.ireturn, 1) := by decide +kernel
theorem dX2_meets_59 : decode cX2_meets 59 = .ok (.aload_n 0, 1) := by decide +kernel
theorem dX2_meets_60 : decode cX2_meets 60 = .ok (.getfield 13, 3) := by decide +kernel
theorem dX2_meets_63 : decode cX2_meets 63 = .ok (.invokestatic 77, 3) := by decide +kernel
theorem dX2_meets_66 : decode cX2_meets 66 = .ok (.iinc 3 1, 3) := by decide +kernel
theorem dX2_meets_69 : decode cX2_meets 69 = .ok (.goto (-41), 3) := by decide +kernel
theorem dX2_meets_72 : decode cX2_meets 72 = .ok (.bipush (-9), 2) := by decide +kernel
theorem dX2_meets_74 : decode cX2_meets 74 = .ok (.ireturn, 1) := by decide +kernel
set_option maxRecDepth 20000 in
theorem ggX2_round_X2_isPerson : GoodIn wsX2_round wsX2_isPerson := goodIn_r _ [7, 1, 8, 9, 6, 10, 46, 47, 48, 49, 50, 51, 52, 53, 54, 55, 56, 57, 58, 59] (by decide +kernel) (by decide +kernel)
set_option maxRecDepth 20000 in
theorem gX2_round_X2_isPerson : GoodIn wsX2_round (wsV RX2 117 RX2 yX2_isPerson wsX2_isPerson) := goodIn_app (goodIn_of _ (by decide +kernel)) ggX2_round_X2_isPerson
set_option maxRecDepth 20000 in
theorem ggX2_round_X2_no : GoodIn wsX2_round wsX2_no := goodIn_r _ [14, 15, 46, 47, 48, 49, 50, 51, 52, 53, 54, 55, 56, 57, 58, 59] (by decide +kernel) (by decide +kernel)
set_option maxRecDepth 20000 in
theorem gX2_round_X2_no : GoodIn wsX2_round (wsV RX2 39 RX2 yX2_no wsX2_no) := goodIn_app (goodIn_of _ (by decide +kernel)) ggX2_round_X2_no
set_option maxRecDepth 20000 in
theorem ggX2_round_X2_copies : GoodIn wsX2_round wsX2_copies := goodIn_r _ [18] (by decide +kernel) (by decide +kernel)
set_option maxRecDepth 20000 in
theorem gX2_round_X2_copies : GoodIn wsX2_round (va_wsS RX2 126 yX2_copies wsX2_copies) := goodIn_app (goodIn_of _ (by decide +kernel)) ggX2_round_X2_copies
set_option maxRecDepth 20000 in
theorem ggX2_round_X2_step : GoodIn wsX2_round wsX2_step := goodIn_r _ [21, 22, 23, 6, 24, 25, 26, 27, 28, 29, 30, 31, 32, 33, 34, 35, 36, 37, 38, 39, 40, 41, 42, 43, 44, 45] (by decide +kernel) (by decide +kernel)
set_option maxRecDepth 20000 in
theorem gX2_round_X2_step : GoodIn wsX2_round (va_wsS RX2 77 yX2_step wsX2_step) := goodIn_app (goodIn_of _ (by decide +kernel)) ggX2_round_X2_step
set_option maxRecDepth 20000 in
theorem ggX2_round_X2_of : GoodIn wsX2_round wsX2_of := goodIn_r _ [30] (by decide +kernel) (by decide +kernel)
set_option maxRecDepth 20000 in
theorem gX2_round_X2_of : GoodIn wsX2_round (va_wsS RX2 47 yX2_of wsX2_of) := goodIn_app (goodIn_of _ (by decide +kernel)) ggX2_round_X2_of
theorem dX2_round_0 : decode cX2_round 0 = .ok (.aload_n 0, 1) := by decide +kernel
theorem dX2_round_1 : decode cX2_round 1 = .ok (.iload_n 1, 1) := by decide +kernel
theorem dX2_round_2 : decode cX2_round 2 = .ok (.invokevirtual 117, 3) := by decide +kernel
theorem dX2_round_5 : decode cX2_round 5 = .ok (.ifCond .ne 9, 3) := by decide +kernel
theorem dX2_round_8 : decode cX2_round 8 = .ok (.aload_n 0, 1) := by decide +kernel
theorem dX2_round_9 : decode cX2_round 9 = .ok (.iconst (-1), 1) := by decide +kernel
theorem dX2_round_10 : decode cX2_round 10 = .ok (.invokevirtual 39, 3) := by decide +kernel
theorem dX2_round_13 : decode cX2_round 13 = .ok (.ireturn, 1) := by decide +kernel
theorem dX2_round_14 : decode cX2_round 14 = .ok (.aload_n 0, 1) := by decide +kernel
theorem dX2_round_15 : decode cX2_round 15 = .ok (.getfield 9, 3) := by decide +kernel
theorem dX2_round_18 : decode cX2_round 18 = .ok (.aload_n 0, 1) := by decide +kernel
theorem dX2_round_19 : decode cX2_round 19 = .ok (.getfield 13, 3) := by decide +kernel
theorem dX2_round_22 : decode cX2_round 22 = .ok (.invokestatic 126, 3) := by decide +kernel
theorem dX2_round_25 : decode cX2_round 25 = .ok (.iconst 1, 1) := by decide +kernel
theorem dX2_round_26 : decode cX2_round 26 = .ok (.istore_n 2, 1) := by decide +kernel
theorem dX2_round_27 : decode cX2_round 27 = .ok (.iload_n 2, 1) := by decide +kernel
theorem dX2_round_28 : decode cX2_round 28 = .ok (.bipush 60, 2) := by decide +kernel
theorem dX2_round_30 : decode cX2_round 30 = .ok (.if_icmp .gt 64, 3) := by decide +kernel
theorem dX2_round_33 : decode cX2_round 33 = .ok (.aload_n 0, 1) := by decide +kernel
theorem dX2_round_34 : decode cX2_round 34 = .ok (.getfield 13, 3) := by decide +kernel
theorem dX2_round_37 : decode cX2_round 37 = .ok (.invokestatic 77, 3) := by decide +kernel
theorem dX2_round_40 : decode cX2_round 40 = .ok (.aload_n 0, 1) := by decide +kernel
theorem dX2_round_41 : decode cX2_round 41 = .ok (.getfield 13, 3) := by decide +kernel
theorem dX2_round_44 : decode cX2_round 44 = .ok (.iload_n 1, 1) := by decide +kernel
theorem dX2_round_45 : decode cX2_round 45 = .ok (.iconst 0, 1) := by decide +kernel
theorem dX2_round_46 : decode cX2_round 46 = .ok (.invokestatic 47, 3) := by decide +kernel
theorem dX2_round_49 : decode cX2_round 49 = .ok (.iaload, 1) := by decide +kernel
theorem dX2_round_50 : decode cX2_round 50 = .ok (.aload_n 0, 1) := by decide +kernel
theorem dX2_round_51 : decode cX2_round 51 = .ok (.getfield 9, 3) := by decide +kernel
theorem dX2_round_54 : decode cX2_round 54 = .ok (.iload_n 1, 1) := by decide +kernel
theorem dX2_round_55 : decode cX2_round 55 = .ok (.iconst 0, 1) := by decide +kernel
theorem dX2_round_56 : decode cX2_round 56 = .ok (.invokestatic 47, 3) := by decide +kernel
theorem dX2_round_59 : decode cX2_round 59 = .ok (.iaload, 1) := by decide +kernel
theorem dX2_round_60 : decode cX2_round 60 = .ok (.if_icmp .ne 28, 3) := by decide +kernel
theorem dX2_round_63 : decode cX2_round 63 = .ok (.aload_n 0, 1) := by decide +kernel
theorem dX2_round_64 : decode cX2_round 64 = .ok (.getfield 13, 3) := by decide +kernel
theorem dX2_round_67 : decode cX2_round 67 = .ok (.iload_n 1, 1) := by decide +kernel
theorem dX2_round_68 : decode cX2_round 68 = .ok (.iconst 1, 1) := by decide +kernel
theorem dX2_round_69 : decode cX2_round 69 = .ok (.invokestatic 47, 3) := by decide +kernel
theorem dX2_round_72 : decode cX2_round 72 = .ok (.iaload, 1) := by decide +kernel
theorem dX2_round_73 : decode cX2_round 73 = .ok (.aload_n 0, 1) := by decide +kernel
theorem dX2_round_74 : decode cX2_round 74 = .ok (.getfield 9, 3) := by decide +kernel
theorem dX2_round_77 : decode cX2_round 77 = .ok (.iload_n 1, 1) := by decide +kernel
theorem dX2_round_78 : decode cX2_round 78 = .ok (.iconst 1, 1) := by decide +kernel
theorem dX2_round_79 : decode cX2_round 79 = .ok (.invokestatic 47, 3) := by decide +kernel
theorem dX2_round_82 : decode cX2_round 82 = .ok (.iaload, 1) := by decide +kernel
theorem dX2_round_83 : decode cX2_round 83 = .ok (.if_icmp .ne 5, 3) := by decide +kernel
theorem dX2_round_86 : decode cX2_round 86 = .ok (.iload_n 2, 1) := by decide +kernel
theorem dX2_round_87 : decode cX2_round 87 = .ok (.ireturn, 1) := by decide +kernel
theorem dX2_round_88 : decode cX2_round 88 = .ok (.iinc 2 1, 3) := by decide +kernel
theorem dX2_round_91 : decode cX2_round 91 = .ok (.goto (-64), 3) := by decide +kernel
theorem dX2_round_94 : decode cX2_round 94 = .ok (.bipush (-9), 2) := by decide +kernel
theorem dX2_round_96 : decode cX2_round 96 = .ok (.ireturn, 1) := by decide +kernel
set_option maxRecDepth 20000 in
theorem ggX2_measures_X2_isDry : GoodIn wsX2_measures wsX2_isDry := goodIn_r _ [7] (by decide +kernel) (by decide +kernel)
set_option maxRecDepth 20000 in
theorem gX2_measures_X2_isDry : GoodIn wsX2_measures (va_wsS RX2 55 yX2_isDry wsX2_isDry) := goodIn_app (goodIn_of _ (by decide +kernel)) ggX2_measures_X2_isDry
set_option maxRecDepth 20000 in
theorem ggX2_measures_X2_nodeThere : GoodIn wsX2_measures wsX2_nodeThere := goodIn_r _ [10] (by decide +kernel) (by decide +kernel)
set_option maxRecDepth 20000 in
theorem gX2_measures_X2_nodeThere : GoodIn wsX2_measures (va_wsS RX2 63 yX2_nodeThere wsX2_nodeThere) := goodIn_app (goodIn_of _ (by decide +kernel)) ggX2_measures_X2_nodeThere
set_option maxRecDepth 20000 in
theorem ggX2_measures_X2_least : GoodIn wsX2_measures wsX2_least := goodIn_r _ [13] (by decide +kernel) (by decide +kernel)
set_option maxRecDepth 20000 in
theorem gX2_measures_X2_least : GoodIn wsX2_measures (va_wsS RX2 66 yX2_least wsX2_least) := goodIn_app (goodIn_of _ (by decide +kernel)) ggX2_measures_X2_least
theorem dX2_measures_0 : decode cX2_measures 0 = .ok (.iconst 0, 1) := by decide +kernel
theorem dX2_measures_1 : decode cX2_measures 1 = .ok (.istore_n 3, 1) := by decide +kernel
theorem dX2_measures_2 : decode cX2_measures 2 = .ok (.iload_n 3, 1) := by decide +kernel
theorem dX2_measures_3 : decode cX2_measures 3 = .ok (.bipush 30, 2) := by decide +kernel
theorem dX2_measures_5 : decode cX2_measures 5 = .ok (.if_icmp .ge 26, 3) := by decide +kernel
theorem dX2_measures_8 : decode cX2_measures 8 = .ok (.aload_n 0, 1) := by decide +kernel
theorem dX2_measures_9 : decode cX2_measures 9 = .ok (.getfield 34, 3) := by decide +kernel
theorem dX2_measures_12 : decode cX2_measures 12 = .ok (.iload_n 3, 1) := by decide +kernel
theorem dX2_measures_13 : decode cX2_measures 13 = .ok (.iload_n 3, 1) := by decide +kernel
theorem dX2_measures_14 : decode cX2_measures 14 = .ok (.iload_n 1, 1) := by decide +kernel
theorem dX2_measures_15 : decode cX2_measures 15 = .ok (.if_icmp .ne 7, 3) := by decide +kernel
theorem dX2_measures_18 : decode cX2_measures 18 = .ok (.iconst 0, 1) := by decide +kernel
theorem dX2_measures_19 : decode cX2_measures 19 = .ok (.goto 5, 3) := by decide +kernel
theorem dX2_measures_22 : decode cX2_measures 22 = .ok (.ldc 166, 2) := by decide +kernel
theorem dX2_measures_24 : decode cX2_measures 24 = .ok (.iastore, 1) := by decide +kernel
theorem dX2_measures_25 : decode cX2_measures 25 = .ok (.iinc 3 1, 3) := by decide +kernel
theorem dX2_measures_28 : decode cX2_measures 28 = .ok (.goto (-26), 3) := by decide +kernel
theorem dX2_measures_31 : decode cX2_measures 31 = .ok (.iconst 0, 1) := by decide +kernel
theorem dX2_measures_32 : decode cX2_measures 32 = .ok (.istore_n 3, 1) := by decide +kernel
theorem dX2_measures_33 : decode cX2_measures 33 = .ok (.iload_n 3, 1) := by decide +kernel
theorem dX2_measures_34 : decode cX2_measures 34 = .ok (.bipush 30, 2) := by decide +kernel
theorem dX2_measures_36 : decode cX2_measures 36 = .ok (.if_icmp .ge 139, 3) := by decide +kernel
theorem dX2_measures_39 : decode cX2_measures 39 = .ok (.iconst 0, 1) := by decide +kernel
theorem dX2_measures_40 : decode cX2_measures 40 = .ok (.istore 4, 2) := by decide +kernel
theorem dX2_measures_42 : decode cX2_measures 42 = .ok (.iload 4, 2) := by decide +kernel
theorem dX2_measures_44 : decode cX2_measures 44 = .ok (.bipush 30, 2) := by decide +kernel
theorem dX2_measures_46 : decode cX2_measures 46 = .ok (.if_icmp .ge 123, 3) := by decide +kernel
theorem dX2_measures_49 : decode cX2_measures 49 = .ok (.aload_n 0, 1) := by decide +kernel
theorem dX2_measures_50 : decode cX2_measures 50 = .ok (.getfield 34, 3) := by decide +kernel
theorem dX2_measures_53 : decode cX2_measures 53 = .ok (.iload 4, 2) := by decide +kernel
theorem dX2_measures_55 : decode cX2_measures 55 = .ok (.iaload, 1) := by decide +kernel
theorem dX2_measures_56 : decode cX2_measures 56 = .ok (.ldc 166, 2) := by decide +kernel
theorem dX2_measures_58 : decode cX2_measures 58 = .ok (.if_icmp .ge 105, 3) := by decide +kernel
theorem dX2_measures_61 : decode cX2_measures 61 = .ok (.iload_n 2, 1) := by decide +kernel
theorem dX2_measures_62 : decode cX2_measures 62 = .ok (.ifCond .ne 18, 3) := by decide +kernel
theorem dX2_measures_65 : decode cX2_measures 65 = .ok (.aload_n 0, 1) := by decide +kernel
theorem dX2_measures_66 : decode cX2_measures 66 = .ok (.getfield 9, 3) := by decide +kernel
theorem dX2_measures_69 : decode cX2_measures 69 = .ok (.iload 4, 2) := by decide +kernel
theorem dX2_measures_71 : decode cX2_measures 71 = .ok (.invokestatic 55, 3) := by decide +kernel
theorem dX2_measures_74 : decode cX2_measures 74 = .ok (.ifCond .eq 6, 3) := by decide +kernel
theorem dX2_measures_77 : decode cX2_measures 77 = .ok (.goto 86, 3) := by decide +kernel
theorem dX2_measures_80 : decode cX2_measures 80 = .ok (.iload_n 2, 1) := by decide +kernel
theorem dX2_measures_81 : decode cX2_measures 81 = .ok (.ifCond .eq 23, 3) := by decide +kernel
theorem dX2_measures_84 : decode cX2_measures 84 = .ok (.aload_n 0, 1) := by decide +kernel
theorem dX2_measures_85 : decode cX2_measures 85 = .ok (.getfield 9, 3) := by decide +kernel
theorem dX2_measures_88 : decode cX2_measures 88 = .ok (.iload 4, 2) := by decide +kernel
theorem dX2_measures_90 : decode cX2_measures 90 = .ok (.invokestatic 55, 3) := by decide +kernel
theorem dX2_measures_93 : decode cX2_measures 93 = .ok (.ifCond .eq 7, 3) := by decide +kernel
theorem dX2_measures_96 : decode cX2_measures 96 = .ok (.iconst 1, 1) := by decide +kernel
theorem dX2_measures_97 : decode cX2_measures 97 = .ok (.goto 8, 3) := by decide +kernel
theorem dX2_measures_100 : decode cX2_measures 100 = .ok (.iconst 0, 1) := by decide +kernel
theorem dX2_measures_101 : decode cX2_measures 101 = .ok (.goto 4, 3) := by decide +kernel
theorem dX2_measures_104 : decode cX2_measures 104 = .ok (.iconst 1, 1) := by decide +kernel
theorem dX2_measures_105 : decode cX2_measures 105 = .ok (.istore 5, 2) := by decide +kernel
theorem dX2_measures_107 : decode cX2_measures 107 = .ok (.iconst 0, 1) := by decide +kernel
theorem dX2_measures_108 : decode cX2_measures 108 = .ok (.istore 6, 2) := by decide +kernel
theorem dX2_measures_110 : decode cX2_measures 110 = .ok (.iload 6, 2) := by decide +kernel
theorem dX2_measures_112 : decode cX2_measures 112 = .ok (.iconst 4, 1) := by decide +kernel
theorem dX2_measures_113 : decode cX2_measures 113 = .ok (.if_icmp .ge 50, 3) := by decide +kernel
theorem dX2_measures_116 : decode cX2_measures 116 = .ok (.iload 4, 2) := by decide +kernel
theorem dX2_measures_118 : decode cX2_measures 118 = .ok (.iload 6, 2) := by decide +kernel
theorem dX2_measures_120 : decode cX2_measures 120 = .ok (.invokestatic 63, 3) := by decide +kernel
theorem dX2_measures_123 : decode cX2_measures 123 = .ok (.istore 7, 2) := by decide +kernel
theorem dX2_measures_125 : decode cX2_measures 125 = .ok (.iload 7, 2) := by decide +kernel
theorem dX2_measures_127 : decode cX2_measures 127 = .ok (.ifCond .lt 30, 3) := by decide +kernel
theorem dX2_measures_130 : decode cX2_measures 130 = .ok (.aload_n 0, 1) := by decide +kernel
theorem dX2_measures_131 : decode cX2_measures 131 = .ok (.getfield 34, 3) := by decide +kernel
theorem dX2_measures_134 : decode cX2_measures 134 = .ok (.iload 7, 2) := by decide +kernel
theorem dX2_measures_136 : decode cX2_measures 136 = .ok (.aload_n 0, 1) := by decide +kernel
theorem dX2_measures_137 : decode cX2_measures 137 = .ok (.getfield 34, 3) := by decide +kernel
theorem dX2_measures_140 : decode cX2_measures 140 = .ok (.iload 7, 2) := by decide +kernel
theorem dX2_measures_142 : decode cX2_measures 142 = .ok (.iaload, 1) := by decide +kernel
theorem dX2_measures_143 : decode cX2_measures 143 = .ok (.aload_n 0, 1) := by decide +kernel
theorem dX2_measures_144 : decode cX2_measures 144 = .ok (.getfield 34, 3) := by decide +kernel
theorem dX2_measures_147 : decode cX2_measures 147 = .ok (.iload 4, 2) := by decide +kernel
theorem dX2_measures_149 : decode cX2_measures 149 = .ok (.iaload, 1) := by decide +kernel
theorem dX2_measures_150 : decode cX2_measures 150 = .ok (.iload 5, 2) := by decide +kernel
theorem dX2_measures_152 : decode cX2_measures 152 = .ok (.iadd, 1) := by decide +kernel
theorem dX2_measures_153 : decode cX2_measures 153 = .ok (.invokestatic 66, 3) := by decide +kernel
theorem dX2_measures_156 : decode cX2_measures 156 = .ok (.iastore, 1) := by decide +kernel
theorem dX2_measures_157 : decode cX2_measures 157 = .ok (.iinc 6 1, 3) := by decide +kernel
theorem dX2_measures_160 : decode cX2_measures 160 = .ok (.goto (-50), 3) := by decide +kernel
theorem dX2_measures_163 : decode cX2_measures 163 = .ok (.iinc 4 1, 3) := by decide +kernel
theorem dX2_measures_166 : decode cX2_measures 166 = .ok (.goto (-124), 3) := by decide +kernel
theorem dX2_measures_169 : decode cX2_measures 169 = .ok (.iinc 3 1, 3) := by decide +kernel
theorem dX2_measures_172 : decode cX2_measures 172 = .ok (.goto (-139), 3) := by decide +kernel
theorem dX2_measures_175 : decode cX2_measures 175 = .ok (.return_, 1) := by decide +kernel
set_option maxRecDepth 20000 in
theorem ggX2_way_X2_isNode : GoodIn wsX2_way wsX2_isNode := goodIn_r _ [6, 7, 8, 5, 9] (by decide +kernel) (by decide +kernel)
set_option maxRecDepth 20000 in
theorem gX2_way_X2_isNode : GoodIn wsX2_way (va_wsS RX2 106 yX2_isNode wsX2_isNode) := goodIn_app (goodIn_of _ (by decide +kernel)) ggX2_way_X2_isNode
set_option maxRecDepth 20000 in
theorem ggX2_way_X2_no : GoodIn wsX2_way wsX2_no := goodIn_r _ [13, 14, 29, 30, 31, 32, 33, 34, 35, 36, 37, 38, 39, 40, 41, 42] (by decide +kernel) (by decide +kernel)
set_option maxRecDepth 20000 in
theorem gX2_way_X2_no : GoodIn wsX2_way (wsV RX2 39 RX2 yX2_no wsX2_no) := goodIn_app (goodIn_of _ (by decide +kernel)) ggX2_way_X2_no
set_option maxRecDepth 20000 in
theorem ggX2_way_X2_isIn : GoodIn wsX2_way wsX2_isIn := goodIn_r _ [9] (by decide +kernel) (by decide +kernel)
set_option maxRecDepth 20000 in
theorem gX2_way_X2_isIn : GoodIn wsX2_way (va_wsS RX2 43 yX2_isIn wsX2_isIn) := goodIn_app (goodIn_of _ (by decide +kernel)) ggX2_way_X2_isIn
set_option maxRecDepth 20000 in
theorem ggX2_way_X2_measures : GoodIn wsX2_way wsX2_measures := goodIn_r _ [18, 1, 2, 19, 20, 21, 5, 22, 23, 24, 25, 26, 27, 28, 29, 30, 31, 32, 33, 34, 35, 36, 37, 38, 39, 40, 41, 42] (by decide +kernel) (by decide +kernel)
set_option maxRecDepth 20000 in
theorem gX2_way_X2_measures : GoodIn wsX2_way (wsV RX2 167 RX2 yX2_measures wsX2_measures) := goodIn_app (goodIn_of _ (by decide +kernel)) ggX2_way_X2_measures
theorem dX2_way_0 : decode cX2_way 0 = .ok (.iload_n 1, 1) := by decide +kernel
theorem dX2_way_1 : decode cX2_way 1 = .ok (.invokestatic 106, 3) := by decide +kernel
theorem dX2_way_4 : decode cX2_way 4 = .ok (.ifCond .eq 10, 3) := by decide +kernel
theorem dX2_way_7 : decode cX2_way 7 = .ok (.iload_n 2, 1) := by decide +kernel
theorem dX2_way_8 : decode cX2_way 8 = .ok (.invokestatic 106, 3) := by decide +kernel
theorem dX2_way_11 : decode cX2_way 11 = .ok (.ifCond .ne 9, 3) := by decide +kernel
theorem dX2_way_14 : decode cX2_way 14 = .ok (.aload_n 0, 1) := by decide +kernel
theorem dX2_way_15 : decode cX2_way 15 = .ok (.iconst (-1), 1) := by decide +kernel
theorem dX2_way_16 : decode cX2_way 16 = .ok (.invokevirtual 39, 3) := by decide +kernel
theorem dX2_way_19 : decode cX2_way 19 = .ok (.ireturn, 1) := by decide +kernel
theorem dX2_way_20 : decode cX2_way 20 = .ok (.iload_n 3, 1) := by decide +kernel
theorem dX2_way_21 : decode cX2_way 21 = .ok (.iconst 0, 1) := by decide +kernel
theorem dX2_way_22 : decode cX2_way 22 = .ok (.iconst 1, 1) := by decide +kernel
theorem dX2_way_23 : decode cX2_way 23 = .ok (.invokestatic 43, 3) := by decide +kernel
theorem dX2_way_26 : decode cX2_way 26 = .ok (.ifCond .ne 10, 3) := by decide +kernel
theorem dX2_way_29 : decode cX2_way 29 = .ok (.aload_n 0, 1) := by decide +kernel
theorem dX2_way_30 : decode cX2_way 30 = .ok (.bipush (-2), 2) := by decide +kernel
theorem dX2_way_32 : decode cX2_way 32 = .ok (.invokevirtual 39, 3) := by decide +kernel
theorem dX2_way_35 : decode cX2_way 35 = .ok (.ireturn, 1) := by decide +kernel
theorem dX2_way_36 : decode cX2_way 36 = .ok (.aload_n 0, 1) := by decide +kernel
theorem dX2_way_37 : decode cX2_way 37 = .ok (.iload_n 1, 1) := by decide +kernel
theorem dX2_way_38 : decode cX2_way 38 = .ok (.iload_n 3, 1) := by decide +kernel
theorem dX2_way_39 : decode cX2_way 39 = .ok (.iconst 1, 1) := by decide +kernel
theorem dX2_way_40 : decode cX2_way 40 = .ok (.if_icmp .ne 7, 3) := by decide +kernel
theorem dX2_way_43 : decode cX2_way 43 = .ok (.iconst 1, 1) := by decide +kernel
theorem dX2_way_44 : decode cX2_way 44 = .ok (.goto 4, 3) := by decide +kernel
theorem dX2_way_47 : decode cX2_way 47 = .ok (.iconst 0, 1) := by decide +kernel
theorem dX2_way_48 : decode cX2_way 48 = .ok (.invokevirtual 167, 3) := by decide +kernel
theorem dX2_way_51 : decode cX2_way 51 = .ok (.aload_n 0, 1) := by decide +kernel
theorem dX2_way_52 : decode cX2_way 52 = .ok (.getfield 34, 3) := by decide +kernel
theorem dX2_way_55 : decode cX2_way 55 = .ok (.iload_n 2, 1) := by decide +kernel
theorem dX2_way_56 : decode cX2_way 56 = .ok (.iaload, 1) := by decide +kernel
theorem dX2_way_57 : decode cX2_way 57 = .ok (.ldc 166, 2) := by decide +kernel
theorem dX2_way_59 : decode cX2_way 59 = .ok (.if_icmp .lt 8, 3) := by decide +kernel
theorem dX2_way_62 : decode cX2_way 62 = .ok (.bipush (-9), 2) := by decide +kernel
theorem dX2_way_64 : decode cX2_way 64 = .ok (.goto 9, 3) := by decide +kernel
theorem dX2_way_67 : decode cX2_way 67 = .ok (.aload_n 0, 1) := by decide +kernel
theorem dX2_way_68 : decode cX2_way 68 = .ok (.getfield 34, 3) := by decide +kernel
theorem dX2_way_71 : decode cX2_way 71 = .ok (.iload_n 2, 1) := by decide +kernel
theorem dX2_way_72 : decode cX2_way 72 = .ok (.iaload, 1) := by decide +kernel
theorem dX2_way_73 : decode cX2_way 73 = .ok (.ireturn, 1) := by decide +kernel
set_option maxRecDepth 20000 in
theorem ggX2_begin_X2_isPerson : GoodIn wsX2_begin wsX2_isPerson := goodIn_r _ [7, 1, 8, 9, 6, 10, 56, 57, 58, 59, 60, 61, 62, 63, 64, 65, 66, 67, 68, 69] (by decide +kernel) (by decide +kernel)
set_option maxRecDepth 20000 in
theorem gX2_begin_X2_isPerson : GoodIn wsX2_begin (wsV RX2 117 RX2 yX2_isPerson wsX2_isPerson) := goodIn_app (goodIn_of _ (by decide +kernel)) ggX2_begin_X2_isPerson
set_option maxRecDepth 20000 in
theorem ggX2_begin_X2_wrongBy : GoodIn wsX2_begin wsX2_wrongBy := goodIn_r _ [13] (by decide +kernel) (by decide +kernel)
set_option maxRecDepth 20000 in
theorem gX2_begin_X2_wrongBy : GoodIn wsX2_begin (va_wsS RX2 133 yX2_wrongBy wsX2_wrongBy) := goodIn_app (goodIn_of _ (by decide +kernel)) ggX2_begin_X2_wrongBy
set_option maxRecDepth 20000 in
theorem ggX2_begin_X2_isIn : GoodIn wsX2_begin wsX2_isIn := goodIn_r _ [10] (by decide +kernel) (by decide +kernel)
set_option maxRecDepth 20000 in
theorem gX2_begin_X2_isIn : GoodIn wsX2_begin (va_wsS RX2 43 yX2_isIn wsX2_isIn) := goodIn_app (goodIn_of _ (by decide +kernel)) ggX2_begin_X2_isIn
set_option maxRecDepth 20000 in
theorem ggX2_begin_X2_no : GoodIn wsX2_begin wsX2_no := goodIn_r _ [17, 18, 56, 57, 58, 59, 60, 61, 62, 63, 64, 65, 66, 67, 68, 69] (by decide +kernel) (by decide +kernel)
set_option maxRecDepth 20000 in
theorem gX2_begin_X2_no : GoodIn wsX2_begin (wsV RX2 39 RX2 yX2_no wsX2_no) := goodIn_app (goodIn_of _ (by decide +kernel)) ggX2_begin_X2_no
set_option maxRecDepth 20000 in
theorem ggX2_begin_X2_copies : GoodIn wsX2_begin wsX2_copies := goodIn_r _ [21] (by decide +kernel) (by decide +kernel)
set_option maxRecDepth 20000 in
theorem gX2_begin_X2_copies : GoodIn wsX2_begin (va_wsS RX2 126 yX2_copies wsX2_copies) := goodIn_app (goodIn_of _ (by decide +kernel)) ggX2_begin_X2_copies
set_option maxRecDepth 20000 in
theorem ggX2_begin_X2_of : GoodIn wsX2_begin wsX2_of := goodIn_r _ [24] (by decide +kernel) (by decide +kernel)
set_option maxRecDepth 20000 in
theorem gX2_begin_X2_of : GoodIn wsX2_begin (va_wsS RX2 47 yX2_of wsX2_of) := goodIn_app (goodIn_of _ (by decide +kernel)) ggX2_begin_X2_of
set_option maxRecDepth 20000 in
theorem ggX2_begin_X2_visitsIn : GoodIn wsX2_begin wsX2_visitsIn := goodIn_r _ [28, 2, 22, 23, 6, 24, 29, 30, 31, 32, 33, 34, 35, 36, 37, 38, 39, 40, 41, 42, 43, 44, 45, 46, 47, 48, 49, 50, 51, 52, 53, 54, 55, 56, 57, 58, 59, 60, 61, 62, 63, 64, 65, 66, 67, 68, 69] (by decide +kernel) (by decide +kernel)
set_option maxRecDepth 20000 in
theorem gX2_begin_X2_visitsIn : GoodIn wsX2_begin (wsV RX2 157 RX2 yX2_visitsIn wsX2_visitsIn) := goodIn_app (goodIn_of _ (by decide +kernel)) ggX2_begin_X2_visitsIn
theorem dX2_begin_0 : decode cX2_begin 0 = .ok (.aload_n 0, 1) := by decide +kernel
theorem dX2_begin_1 : decode cX2_begin 1 = .ok (.iload_n 1, 1) := by decide +kernel
theorem dX2_begin_2 : decode cX2_begin 2 = .ok (.invokevirtual 117, 3) := by decide +kernel
theorem dX2_begin_5 : decode cX2_begin 5 = .ok (.ifCond .eq 13, 3) := by decide +kernel
theorem dX2_begin_8 : decode cX2_begin 8 = .ok (.iload_n 2, 1) := by decide +kernel
theorem dX2_begin_9 : decode cX2_begin 9 = .ok (.iconst 0, 1) := by decide +kernel
theorem dX2_begin_10 : decode cX2_begin 10 = .ok (.bipush 30, 2) := by decide +kernel
theorem dX2_begin_12 : decode cX2_begin 12 = .ok (.invokestatic 133, 3) := by decide +kernel
theorem dX2_begin_15 : decode cX2_begin 15 = .ok (.goto 4, 3) := by decide +kernel
theorem dX2_begin_18 : decode cX2_begin 18 = .ok (.iconst (-1), 1) := by decide +kernel
theorem dX2_begin_19 : decode cX2_begin 19 = .ok (.istore 4, 2) := by decide +kernel
theorem dX2_begin_21 : decode cX2_begin 21 = .ok (.iload 4, 2) := by decide +kernel
theorem dX2_begin_23 : decode cX2_begin 23 = .ok (.ifCond .ne 16, 3) := by decide +kernel
theorem dX2_begin_26 : decode cX2_begin 26 = .ok (.iload_n 3, 1) := by decide +kernel
theorem dX2_begin_27 : decode cX2_begin 27 = .ok (.iconst 0, 1) := by decide +kernel
theorem dX2_begin_28 : decode cX2_begin 28 = .ok (.iconst 1, 1) := by decide +kernel
theorem dX2_begin_29 : decode cX2_begin 29 = .ok (.invokestatic 43, 3) := by decide +kernel
theorem dX2_begin_32 : decode cX2_begin 32 = .ok (.ifCond .ne 7, 3) := by decide +kernel
theorem dX2_begin_35 : decode cX2_begin 35 = .ok (.bipush (-2), 2) := by decide +kernel
theorem dX2_begin_37 : decode cX2_begin 37 = .ok (.istore 4, 2) := by decide +kernel
theorem dX2_begin_39 : decode cX2_begin 39 = .ok (.iload 4, 2) := by decide +kernel
theorem dX2_begin_41 : decode cX2_begin 41 = .ok (.ifCond .eq 10, 3) := by decide +kernel
theorem dX2_begin_44 : decode cX2_begin 44 = .ok (.aload_n 0, 1) := by decide +kernel
theorem dX2_begin_45 : decode cX2_begin 45 = .ok (.iload 4, 2) := by decide +kernel
theorem dX2_begin_47 : decode cX2_begin 47 = .ok (.invokevirtual 39, 3) := by decide +kernel
theorem dX2_begin_50 : decode cX2_begin 50 = .ok (.ireturn, 1) := by decide +kernel
theorem dX2_begin_51 : decode cX2_begin 51 = .ok (.iconst 0, 1) := by decide +kernel
theorem dX2_begin_52 : decode cX2_begin 52 = .ok (.istore 5, 2) := by decide +kernel
theorem dX2_begin_54 : decode cX2_begin 54 = .ok (.iconst (-1), 1) := by decide +kernel
theorem dX2_begin_55 : decode cX2_begin 55 = .ok (.istore 6, 2) := by decide +kernel
theorem dX2_begin_57 : decode cX2_begin 57 = .ok (.iconst 0, 1) := by decide +kernel
theorem dX2_begin_58 : decode cX2_begin 58 = .ok (.istore 7, 2) := by decide +kernel
theorem dX2_begin_60 : decode cX2_begin 60 = .ok (.iload 7, 2) := by decide +kernel
theorem dX2_begin_62 : decode cX2_begin 62 = .ok (.bipush 30, 2) := by decide +kernel
theorem dX2_begin_64 : decode cX2_begin 64 = .ok (.if_icmp .ge 58, 3) := by decide +kernel
theorem dX2_begin_67 : decode cX2_begin 67 = .ok (.aload_n 0, 1) := by decide +kernel
theorem dX2_begin_68 : decode cX2_begin 68 = .ok (.getfield 9, 3) := by decide +kernel
theorem dX2_begin_71 : decode cX2_begin 71 = .ok (.aload_n 0, 1) := by decide +kernel
theorem dX2_begin_72 : decode cX2_begin 72 = .ok (.getfield 13, 3) := by decide +kernel
theorem dX2_begin_75 : decode cX2_begin 75 = .ok (.invokestatic 126, 3) := by decide +kernel
theorem dX2_begin_78 : decode cX2_begin 78 = .ok (.aload_n 0, 1) := by decide +kernel
theorem dX2_begin_79 : decode cX2_begin 79 = .ok (.getfield 13, 3) := by decide +kernel
theorem dX2_begin_82 : decode cX2_begin 82 = .ok (.iload_n 1, 1) := by decide +kernel
theorem dX2_begin_83 : decode cX2_begin 83 = .ok (.iconst 0, 1) := by decide +kernel
theorem dX2_begin_84 : decode cX2_begin 84 = .ok (.invokestatic 47, 3) := by decide +kernel
theorem dX2_begin_87 : decode cX2_begin 87 = .ok (.iload 7, 2) := by decide +kernel
theorem dX2_begin_89 : decode cX2_begin 89 = .ok (.iastore, 1) := by decide +kernel
theorem dX2_begin_90 : decode cX2_begin 90 = .ok (.aload_n 0, 1) := by decide +kernel
theorem dX2_begin_91 : decode cX2_begin 91 = .ok (.iload_n 1, 1) := by decide +kernel
theorem dX2_begin_92 : decode cX2_begin 92 = .ok (.iload_n 2, 1) := by decide +kernel
theorem dX2_begin_93 : decode cX2_begin 93 = .ok (.invokevirtual 157, 3) := by decide +kernel
theorem dX2_begin_96 : decode cX2_begin 96 = .ok (.istore 8, 2) := by decide +kernel
theorem dX2_begin_98 : decode cX2_begin 98 = .ok (.iload 8, 2) := by decide +kernel
theorem dX2_begin_100 : decode cX2_begin 100 = .ok (.iload 6, 2) := by decide +kernel
theorem dX2_begin_102 : decode cX2_begin 102 = .ok (.if_icmp .gt 6, 3) := by decide +kernel
theorem dX2_begin_105 : decode cX2_begin 105 = .ok (.goto 11, 3) := by decide +kernel
theorem dX2_begin_108 : decode cX2_begin 108 = .ok (.iload 7, 2) := by decide +kernel
theorem dX2_begin_110 : decode cX2_begin 110 = .ok (.istore 5, 2) := by decide +kernel
theorem dX2_begin_112 : decode cX2_begin 112 = .ok (.iload 8, 2) := by decide +kernel
theorem dX2_begin_114 : decode cX2_begin 114 = .ok (.istore 6, 2) := by decide +kernel
theorem dX2_begin_116 : decode cX2_begin 116 = .ok (.iinc 7 1, 3) := by decide +kernel
theorem dX2_begin_119 : decode cX2_begin 119 = .ok (.goto (-59), 3) := by decide +kernel
theorem dX2_begin_122 : decode cX2_begin 122 = .ok (.iload_n 3, 1) := by decide +kernel
theorem dX2_begin_123 : decode cX2_begin 123 = .ok (.ifCond .ne 8, 3) := by decide +kernel
theorem dX2_begin_126 : decode cX2_begin 126 = .ok (.iload 5, 2) := by decide +kernel
theorem dX2_begin_128 : decode cX2_begin 128 = .ok (.goto 5, 3) := by decide +kernel
theorem dX2_begin_131 : decode cX2_begin 131 = .ok (.iload 6, 2) := by decide +kernel
theorem dX2_begin_133 : decode cX2_begin 133 = .ok (.ireturn, 1) := by decide +kernel
set_option maxRecDepth 20000 in
theorem ggX2_head_X2_areThere : GoodIn wsX2_head wsX2_areThere := goodIn_r _ [8, 9, 10, 11, 7, 12, 2, 13, 14, 15, 16, 17, 18, 58, 59, 60, 61, 62, 63, 64, 65, 66, 67, 68, 69, 70, 71] (by decide +kernel) (by decide +kernel)
set_option maxRecDepth 20000 in
theorem gX2_head_X2_areThere : GoodIn wsX2_head (wsV RX2 140 RX2 yX2_areThere wsX2_areThere) := goodIn_app (goodIn_of _ (by decide +kernel)) ggX2_head_X2_areThere
set_option maxRecDepth 20000 in
theorem ggX2_head_X2_no : GoodIn wsX2_head wsX2_no := goodIn_r _ [22, 23, 58, 59, 60, 61, 62, 63, 64, 65, 66, 67, 68, 69, 70, 71] (by decide +kernel) (by decide +kernel)
set_option maxRecDepth 20000 in
theorem gX2_head_X2_no : GoodIn wsX2_head (wsV RX2 39 RX2 yX2_no wsX2_no) := goodIn_app (goodIn_of _ (by decide +kernel)) ggX2_head_X2_no
set_option maxRecDepth 20000 in
theorem ggX2_head_X2_copies : GoodIn wsX2_head wsX2_copies := goodIn_r _ [26] (by decide +kernel) (by decide +kernel)
set_option maxRecDepth 20000 in
theorem gX2_head_X2_copies : GoodIn wsX2_head (va_wsS RX2 126 yX2_copies wsX2_copies) := goodIn_app (goodIn_of _ (by decide +kernel)) ggX2_head_X2_copies
set_option maxRecDepth 20000 in
theorem ggX2_head_X2_of : GoodIn wsX2_head wsX2_of := goodIn_r _ [29] (by decide +kernel) (by decide +kernel)
set_option maxRecDepth 20000 in
theorem gX2_head_X2_of : GoodIn wsX2_head (va_wsS RX2 47 yX2_of wsX2_of) := goodIn_app (goodIn_of _ (by decide +kernel)) ggX2_head_X2_of
set_option maxRecDepth 20000 in
theorem ggX2_head_X2_comesTo : GoodIn wsX2_head wsX2_comesTo := goodIn_r _ [33, 3, 27, 28, 7, 29, 34, 35, 36, 37, 38, 39, 40, 41, 42, 43, 44, 45, 46, 47, 48, 49, 50, 51, 52, 53, 54, 55, 56, 57, 58, 59, 60, 61, 62, 63, 64, 65, 66, 67, 68, 69, 70, 71] (by decide +kernel) (by decide +kernel)
set_option maxRecDepth 20000 in
theorem gX2_head_X2_comesTo : GoodIn wsX2_head (wsV RX2 151 RX2 yX2_comesTo wsX2_comesTo) := goodIn_app (goodIn_of _ (by decide +kernel)) ggX2_head_X2_comesTo
theorem dX2_head_0 : decode cX2_head 0 = .ok (.aload_n 0, 1) := by decide +kernel
theorem dX2_head_1 : decode cX2_head 1 = .ok (.iload_n 1, 1) := by decide +kernel
theorem dX2_head_2 : decode cX2_head 2 = .ok (.iload_n 2, 1) := by decide +kernel
theorem dX2_head_3 : decode cX2_head 3 = .ok (.invokevirtual 140, 3) := by decide +kernel
theorem dX2_head_6 : decode cX2_head 6 = .ok (.ifCond .ne 9, 3) := by decide +kernel
theorem dX2_head_9 : decode cX2_head 9 = .ok (.aload_n 0, 1) := by decide +kernel
theorem dX2_head_10 : decode cX2_head 10 = .ok (.iconst (-1), 1) := by decide +kernel
theorem dX2_head_11 : decode cX2_head 11 = .ok (.invokevirtual 39, 3) := by decide +kernel
theorem dX2_head_14 : decode cX2_head 14 = .ok (.ireturn, 1) := by decide +kernel
theorem dX2_head_15 : decode cX2_head 15 = .ok (.bipush (-9), 2) := by decide +kernel
theorem dX2_head_17 : decode cX2_head 17 = .ok (.istore_n 3, 1) := by decide +kernel
theorem dX2_head_18 : decode cX2_head 18 = .ok (.ldc 166, 2) := by decide +kernel
theorem dX2_head_20 : decode cX2_head 20 = .ok (.istore 4, 2) := by decide +kernel
theorem dX2_head_22 : decode cX2_head 22 = .ok (.iconst 0, 1) := by decide +kernel
theorem dX2_head_23 : decode cX2_head 23 = .ok (.istore 5, 2) := by decide +kernel
theorem dX2_head_25 : decode cX2_head 25 = .ok (.iload 5, 2) := by decide +kernel
theorem dX2_head_27 : decode cX2_head 27 = .ok (.iconst 4, 1) := by decide +kernel
theorem dX2_head_28 : decode cX2_head 28 = .ok (.if_icmp .ge 62, 3) := by decide +kernel
theorem dX2_head_31 : decode cX2_head 31 = .ok (.aload_n 0, 1) := by decide +kernel
theorem dX2_head_32 : decode cX2_head 32 = .ok (.getfield 9, 3) := by decide +kernel
theorem dX2_head_35 : decode cX2_head 35 = .ok (.aload_n 0, 1) := by decide +kernel
theorem dX2_head_36 : decode cX2_head 36 = .ok (.getfield 13, 3) := by decide +kernel
theorem dX2_head_39 : decode cX2_head 39 = .ok (.invokestatic 126, 3) := by decide +kernel
theorem dX2_head_42 : decode cX2_head 42 = .ok (.aload_n 0, 1) := by decide +kernel
theorem dX2_head_43 : decode cX2_head 43 = .ok (.getfield 13, 3) := by decide +kernel
theorem dX2_head_46 : decode cX2_head 46 = .ok (.iload_n 1, 1) := by decide +kernel
theorem dX2_head_47 : decode cX2_head 47 = .ok (.iconst 1, 1) := by decide +kernel
theorem dX2_head_48 : decode cX2_head 48 = .ok (.invokestatic 47, 3) := by decide +kernel
theorem dX2_head_51 : decode cX2_head 51 = .ok (.iload 5, 2) := by decide +kernel
theorem dX2_head_53 : decode cX2_head 53 = .ok (.iastore, 1) := by decide +kernel
theorem dX2_head_54 : decode cX2_head 54 = .ok (.aload_n 0, 1) := by decide +kernel
theorem dX2_head_55 : decode cX2_head 55 = .ok (.iload_n 1, 1) := by decide +kernel
theorem dX2_head_56 : decode cX2_head 56 = .ok (.iload_n 2, 1) := by decide +kernel
theorem dX2_head_57 : decode cX2_head 57 = .ok (.invokevirtual 151, 3) := by decide +kernel
theorem dX2_head_60 : decode cX2_head 60 = .ok (.istore 6, 2) := by decide +kernel
theorem dX2_head_62 : decode cX2_head 62 = .ok (.iload 6, 2) := by decide +kernel
theorem dX2_head_64 : decode cX2_head 64 = .ok (.ifCond .lt 20, 3) := by decide +kernel
theorem dX2_head_67 : decode cX2_head 67 = .ok (.iload 6, 2) := by decide +kernel
theorem dX2_head_69 : decode cX2_head 69 = .ok (.iload 4, 2) := by decide +kernel
theorem dX2_head_71 : decode cX2_head 71 = .ok (.if_icmp .lt 6, 3) := by decide +kernel
theorem dX2_head_74 : decode cX2_head 74 = .ok (.goto 10, 3) := by decide +kernel
theorem dX2_head_77 : decode cX2_head 77 = .ok (.iload 5, 2) := by decide +kernel
theorem dX2_head_79 : decode cX2_head 79 = .ok (.istore_n 3, 1) := by decide +kernel
theorem dX2_head_80 : decode cX2_head 80 = .ok (.iload 6, 2) := by decide +kernel
theorem dX2_head_82 : decode cX2_head 82 = .ok (.istore 4, 2) := by decide +kernel
theorem dX2_head_84 : decode cX2_head 84 = .ok (.iinc 5 1, 3) := by decide +kernel
theorem dX2_head_87 : decode cX2_head 87 = .ok (.goto (-62), 3) := by decide +kernel
theorem dX2_head_90 : decode cX2_head 90 = .ok (.iload_n 3, 1) := by decide +kernel
theorem dX2_head_91 : decode cX2_head 91 = .ok (.ireturn, 1) := by decide +kernel
set_option maxRecDepth 20000 in
theorem ggX2_damp_X2_isPerson : GoodIn wsX2_damp wsX2_isPerson := goodIn_r _ [7, 1, 8, 9, 6, 10, 60, 61, 62, 63, 64, 65, 66, 67, 68, 69, 70, 71, 72, 73] (by decide +kernel) (by decide +kernel)
set_option maxRecDepth 20000 in
theorem gX2_damp_X2_isPerson : GoodIn wsX2_damp (wsV RX2 117 RX2 yX2_isPerson wsX2_isPerson) := goodIn_app (goodIn_of _ (by decide +kernel)) ggX2_damp_X2_isPerson
set_option maxRecDepth 20000 in
theorem ggX2_damp_X2_wrongBy : GoodIn wsX2_damp wsX2_wrongBy := goodIn_r _ [13] (by decide +kernel) (by decide +kernel)
set_option maxRecDepth 20000 in
theorem gX2_damp_X2_wrongBy : GoodIn wsX2_damp (va_wsS RX2 133 yX2_wrongBy wsX2_wrongBy) := goodIn_app (goodIn_of _ (by decide +kernel)) ggX2_damp_X2_wrongBy
set_option maxRecDepth 20000 in
theorem ggX2_damp_X2_no : GoodIn wsX2_damp wsX2_no := goodIn_r _ [17, 18, 60, 61, 62, 63, 64, 65, 66, 67, 68, 69, 70, 71, 72, 73] (by decide +kernel) (by decide +kernel)
set_option maxRecDepth 20000 in
theorem gX2_damp_X2_no : GoodIn wsX2_damp (wsV RX2 39 RX2 yX2_no wsX2_no) := goodIn_app (goodIn_of _ (by decide +kernel)) ggX2_damp_X2_no
set_option maxRecDepth 20000 in
theorem ggX2_damp_X2_visitsNow : GoodIn wsX2_damp wsX2_visitsNow := goodIn_r _ [22, 1, 2, 23, 24, 6, 25, 26, 27, 28, 29, 30, 31, 32, 33, 34, 35, 36, 37, 38, 39, 40, 41, 42, 43, 44, 45, 46, 47, 48, 49, 50, 51, 52, 53, 54, 55, 56, 57, 58, 59, 60, 61, 62, 63, 64, 65, 66, 67, 68, 69, 70, 71, 72, 73] (by decide +kernel) (by decide +kernel)
set_option maxRecDepth 20000 in
theorem gX2_damp_X2_visitsNow : GoodIn wsX2_damp (wsV RX2 160 RX2 yX2_visitsNow wsX2_visitsNow) := goodIn_app (goodIn_of _ (by decide +kernel)) ggX2_damp_X2_visitsNow
set_option maxRecDepth 20000 in
theorem ggX2_damp_X2_copies : GoodIn wsX2_damp wsX2_copies := goodIn_r _ [25] (by decide +kernel) (by decide +kernel)
set_option maxRecDepth 20000 in
theorem gX2_damp_X2_copies : GoodIn wsX2_damp (va_wsS RX2 126 yX2_copies wsX2_copies) := goodIn_app (goodIn_of _ (by decide +kernel)) ggX2_damp_X2_copies
set_option maxRecDepth 20000 in
theorem ggX2_damp_X2_visitsIn : GoodIn wsX2_damp wsX2_visitsIn := goodIn_r _ [29, 2, 30, 31, 6, 32, 33, 34, 35, 36, 37, 38, 39, 40, 41, 42, 43, 44, 45, 46, 47, 48, 49, 50, 51, 52, 53, 54, 55, 56, 57, 58, 59, 60, 61, 62, 63, 64, 65, 66, 67, 68, 69, 70, 71, 72, 73] (by decide +kernel) (by decide +kernel)
set_option maxRecDepth 20000 in
theorem gX2_damp_X2_visitsIn : GoodIn wsX2_damp (wsV RX2 157 RX2 yX2_visitsIn wsX2_visitsIn) := goodIn_app (goodIn_of _ (by decide +kernel)) ggX2_damp_X2_visitsIn
theorem dX2_damp_0 : decode cX2_damp 0 = .ok (.aload_n 0, 1) := by decide +kernel
theorem dX2_damp_1 : decode cX2_damp 1 = .ok (.iload_n 1, 1) := by decide +kernel
theorem dX2_damp_2 : decode cX2_damp 2 = .ok (.invokevirtual 117, 3) := by decide +kernel
theorem dX2_damp_5 : decode cX2_damp 5 = .ok (.ifCond .eq 13, 3) := by decide +kernel
theorem dX2_damp_8 : decode cX2_damp 8 = .ok (.iload_n 2, 1) := by decide +kernel
theorem dX2_damp_9 : decode cX2_damp 9 = .ok (.iconst 0, 1) := by decide +kernel
theorem dX2_damp_10 : decode cX2_damp 10 = .ok (.bipush 30, 2) := by decide +kernel
theorem dX2_damp_12 : decode cX2_damp 12 = .ok (.invokestatic 133, 3) := by decide +kernel
theorem dX2_damp_15 : decode cX2_damp 15 = .ok (.goto 4, 3) := by decide +kernel
theorem dX2_damp_18 : decode cX2_damp 18 = .ok (.iconst (-1), 1) := by decide +kernel
theorem dX2_damp_19 : decode cX2_damp 19 = .ok (.istore_n 3, 1) := by decide +kernel
theorem dX2_damp_20 : decode cX2_damp 20 = .ok (.iload_n 3, 1) := by decide +kernel
theorem dX2_damp_21 : decode cX2_damp 21 = .ok (.ifCond .eq 9, 3) := by decide +kernel
theorem dX2_damp_24 : decode cX2_damp 24 = .ok (.aload_n 0, 1) := by decide +kernel
theorem dX2_damp_25 : decode cX2_damp 25 = .ok (.iload_n 3, 1) := by decide +kernel
theorem dX2_damp_26 : decode cX2_damp 26 = .ok (.invokevirtual 39, 3) := by decide +kernel
theorem dX2_damp_29 : decode cX2_damp 29 = .ok (.ireturn, 1) := by decide +kernel
theorem dX2_damp_30 : decode cX2_damp 30 = .ok (.aload_n 0, 1) := by decide +kernel
theorem dX2_damp_31 : decode cX2_damp 31 = .ok (.iload_n 1, 1) := by decide +kernel
theorem dX2_damp_32 : decode cX2_damp 32 = .ok (.iload_n 2, 1) := by decide +kernel
theorem dX2_damp_33 : decode cX2_damp 33 = .ok (.invokevirtual 160, 3) := by decide +kernel
theorem dX2_damp_36 : decode cX2_damp 36 = .ok (.istore 4, 2) := by decide +kernel
theorem dX2_damp_38 : decode cX2_damp 38 = .ok (.bipush (-9), 2) := by decide +kernel
theorem dX2_damp_40 : decode cX2_damp 40 = .ok (.istore 5, 2) := by decide +kernel
theorem dX2_damp_42 : decode cX2_damp 42 = .ok (.iconst 0, 1) := by decide +kernel
theorem dX2_damp_43 : decode cX2_damp 43 = .ok (.istore 6, 2) := by decide +kernel
theorem dX2_damp_45 : decode cX2_damp 45 = .ok (.iload 6, 2) := by decide +kernel
theorem dX2_damp_47 : decode cX2_damp 47 = .ok (.bipush 30, 2) := by decide +kernel
theorem dX2_damp_49 : decode cX2_damp 49 = .ok (.if_icmp .ge 58, 3) := by decide +kernel
theorem dX2_damp_52 : decode cX2_damp 52 = .ok (.aload_n 0, 1) := by decide +kernel
theorem dX2_damp_53 : decode cX2_damp 53 = .ok (.getfield 9, 3) := by decide +kernel
theorem dX2_damp_56 : decode cX2_damp 56 = .ok (.aload_n 0, 1) := by decide +kernel
theorem dX2_damp_57 : decode cX2_damp 57 = .ok (.getfield 13, 3) := by decide +kernel
theorem dX2_damp_60 : decode cX2_damp 60 = .ok (.invokestatic 126, 3) := by decide +kernel
theorem dX2_damp_63 : decode cX2_damp 63 = .ok (.aload_n 0, 1) := by decide +kernel
theorem dX2_damp_64 : decode cX2_damp 64 = .ok (.getfield 13, 3) := by decide +kernel
theorem dX2_damp_67 : decode cX2_damp 67 = .ok (.bipush 63, 2) := by decide +kernel
theorem dX2_damp_69 : decode cX2_damp 69 = .ok (.iload 6, 2) := by decide +kernel
theorem dX2_damp_71 : decode cX2_damp 71 = .ok (.iadd, 1) := by decide +kernel
theorem dX2_damp_72 : decode cX2_damp 72 = .ok (.bipush 9, 2) := by decide +kernel
theorem dX2_damp_74 : decode cX2_damp 74 = .ok (.iastore, 1) := by decide +kernel
theorem dX2_damp_75 : decode cX2_damp 75 = .ok (.aload_n 0, 1) := by decide +kernel
theorem dX2_damp_76 : decode cX2_damp 76 = .ok (.iload_n 1, 1) := by decide +kernel
theorem dX2_damp_77 : decode cX2_damp 77 = .ok (.iload_n 2, 1) := by decide +kernel
theorem dX2_damp_78 : decode cX2_damp 78 = .ok (.invokevirtual 157, 3) := by decide +kernel
theorem dX2_damp_81 : decode cX2_damp 81 = .ok (.istore 7, 2) := by decide +kernel
theorem dX2_damp_83 : decode cX2_damp 83 = .ok (.iload 7, 2) := by decide +kernel
theorem dX2_damp_85 : decode cX2_damp 85 = .ok (.iload 4, 2) := by decide +kernel
theorem dX2_damp_87 : decode cX2_damp 87 = .ok (.if_icmp .gt 6, 3) := by decide +kernel
theorem dX2_damp_90 : decode cX2_damp 90 = .ok (.goto 11, 3) := by decide +kernel
theorem dX2_damp_93 : decode cX2_damp 93 = .ok (.iload 6, 2) := by decide +kernel
theorem dX2_damp_95 : decode cX2_damp 95 = .ok (.istore 5, 2) := by decide +kernel
theorem dX2_damp_97 : decode cX2_damp 97 = .ok (.iload 7, 2) := by decide +kernel
theorem dX2_damp_99 : decode cX2_damp 99 = .ok (.istore 4, 2) := by decide +kernel
theorem dX2_damp_101 : decode cX2_damp 101 = .ok (.iinc 6 1, 3) := by decide +kernel
theorem dX2_damp_104 : decode cX2_damp 104 = .ok (.goto (-59), 3) := by decide +kernel
theorem dX2_damp_107 : decode cX2_damp 107 = .ok (.iload 5, 2) := by decide +kernel
theorem dX2_damp_109 : decode cX2_damp 109 = .ok (.ireturn, 1) := by decide +kernel
set_option maxRecDepth 20000 in
theorem ggX2_bestKind_X2_areThere : GoodIn wsX2_bestKind wsX2_areThere := goodIn_r _ [7, 8, 9, 10, 6, 11, 1, 12, 13, 14, 15, 16, 17, 63, 64, 65, 66, 67, 68, 69, 70, 71, 72, 73, 74, 75, 76] (by decide +kernel) (by decide +kernel)
set_option maxRecDepth 20000 in
theorem gX2_bestKind_X2_areThere : GoodIn wsX2_bestKind (wsV RX2 140 RX2 yX2_areThere wsX2_areThere) := goodIn_app (goodIn_of _ (by decide +kernel)) ggX2_bestKind_X2_areThere
set_option maxRecDepth 20000 in
theorem ggX2_bestKind_X2_wrongBy : GoodIn wsX2_bestKind wsX2_wrongBy := goodIn_r _ [20] (by decide +kernel) (by decide +kernel)
set_option maxRecDepth 20000 in
theorem gX2_bestKind_X2_wrongBy : GoodIn wsX2_bestKind (va_wsS RX2 133 yX2_wrongBy wsX2_wrongBy) := goodIn_app (goodIn_of _ (by decide +kernel)) ggX2_bestKind_X2_wrongBy
set_option maxRecDepth 20000 in
theorem ggX2_bestKind_X2_no : GoodIn wsX2_bestKind wsX2_no := goodIn_r _ [24, 25, 63, 64, 65, 66, 67, 68, 69, 70, 71, 72, 73, 74, 75, 76] (by decide +kernel) (by decide +kernel)
set_option maxRecDepth 20000 in
theorem gX2_bestKind_X2_no : GoodIn wsX2_bestKind (wsV RX2 39 RX2 yX2_no wsX2_no) := goodIn_app (goodIn_of _ (by decide +kernel)) ggX2_bestKind_X2_no
set_option maxRecDepth 20000 in
theorem ggX2_bestKind_X2_copies : GoodIn wsX2_bestKind wsX2_copies := goodIn_r _ [28] (by decide +kernel) (by decide +kernel)
set_option maxRecDepth 20000 in
theorem gX2_bestKind_X2_copies : GoodIn wsX2_bestKind (va_wsS RX2 126 yX2_copies wsX2_copies) := goodIn_app (goodIn_of _ (by decide +kernel)) ggX2_bestKind_X2_copies
set_option maxRecDepth 20000 in
theorem ggX2_bestKind_X2_visitsIn : GoodIn wsX2_bestKind wsX2_visitsIn := goodIn_r _ [32, 2, 33, 34, 6, 35, 36, 37, 38, 39, 40, 41, 42, 43, 44, 45, 46, 47, 48, 49, 50, 51, 52, 53, 54, 55, 56, 57, 58, 59, 60, 61, 62, 63, 64, 65, 66, 67, 68, 69, 70, 71, 72, 73, 74, 75, 76] (by decide +kernel) (by decide +kernel)
set_option maxRecDepth 20000 in
theorem gX2_bestKind_X2_visitsIn : GoodIn wsX2_bestKind (wsV RX2 157 RX2 yX2_visitsIn wsX2_visitsIn) := goodIn_app (goodIn_of _ (by decide +kernel)) ggX2_bestKind_X2_visitsIn
theorem dX2_bestKind_0 : decode cX2_bestKind 0 = .ok (.aload_n 0, 1) := by decide +kernel
theorem dX2_bestKind_1 : decode cX2_bestKind 1 = .ok (.iload_n 2, 1) := by decide +kernel
theorem dX2_bestKind_2 : decode cX2_bestKind 2 = .ok (.iload_n 1, 1) := by decide +kernel
theorem dX2_bestKind_3 : decode cX2_bestKind 3 = .ok (.invokevirtual 140, 3) := by decide +kernel
theorem dX2_bestKind_6 : decode cX2_bestKind 6 = .ok (.ifCond .eq 13, 3) := by decide +kernel
theorem dX2_bestKind_9 : decode cX2_bestKind 9 = .ok (.iload_n 3, 1) := by decide +kernel
theorem dX2_bestKind_10 : decode cX2_bestKind 10 = .ok (.iconst 0, 1) := by decide +kernel
theorem dX2_bestKind_11 : decode cX2_bestKind 11 = .ok (.bipush 30, 2) := by decide +kernel
theorem dX2_bestKind_13 : decode cX2_bestKind 13 = .ok (.invokestatic 133, 3) := by decide +kernel
theorem dX2_bestKind_16 : decode cX2_bestKind 16 = .ok (.goto 4, 3) := by decide +kernel
theorem dX2_bestKind_19 : decode cX2_bestKind 19 = .ok (.iconst (-1), 1) := by decide +kernel
theorem dX2_bestKind_20 : decode cX2_bestKind 20 = .ok (.istore 4, 2) := by decide +kernel
theorem dX2_bestKind_22 : decode cX2_bestKind 22 = .ok (.iload 4, 2) := by decide +kernel
theorem dX2_bestKind_24 : decode cX2_bestKind 24 = .ok (.ifCond .eq 10, 3) := by decide +kernel
theorem dX2_bestKind_27 : decode cX2_bestKind 27 = .ok (.aload_n 0, 1) := by decide +kernel
theorem dX2_bestKind_28 : decode cX2_bestKind 28 = .ok (.iload 4, 2) := by decide +kernel
theorem dX2_bestKind_30 : decode cX2_bestKind 30 = .ok (.invokevirtual 39, 3) := by decide +kernel
theorem dX2_bestKind_33 : decode cX2_bestKind 33 = .ok (.ireturn, 1) := by decide +kernel
theorem dX2_bestKind_34 : decode cX2_bestKind 34 = .ok (.iconst 0, 1) := by decide +kernel
theorem dX2_bestKind_35 : decode cX2_bestKind 35 = .ok (.istore 5, 2) := by decide +kernel
theorem dX2_bestKind_37 : decode cX2_bestKind 37 = .ok (.iconst (-1), 1) := by decide +kernel
theorem dX2_bestKind_38 : decode cX2_bestKind 38 = .ok (.istore 6, 2) := by decide +kernel
theorem dX2_bestKind_40 : decode cX2_bestKind 40 = .ok (.iconst 0, 1) := by decide +kernel
theorem dX2_bestKind_41 : decode cX2_bestKind 41 = .ok (.istore 7, 2) := by decide +kernel
theorem dX2_bestKind_43 : decode cX2_bestKind 43 = .ok (.iload 7, 2) := by decide +kernel
theorem dX2_bestKind_45 : decode cX2_bestKind 45 = .ok (.bipush 6, 2) := by decide +kernel
theorem dX2_bestKind_47 : decode cX2_bestKind 47 = .ok (.if_icmp .ge 56, 3) := by decide +kernel
theorem dX2_bestKind_50 : decode cX2_bestKind 50 = .ok (.aload_n 0, 1) := by decide +kernel
theorem dX2_bestKind_51 : decode cX2_bestKind 51 = .ok (.getfield 9, 3) := by decide +kernel
theorem dX2_bestKind_54 : decode cX2_bestKind 54 = .ok (.aload_n 0, 1) := by decide +kernel
theorem dX2_bestKind_55 : decode cX2_bestKind 55 = .ok (.getfield 13, 3) := by decide +kernel
theorem dX2_bestKind_58 : decode cX2_bestKind 58 = .ok (.invokestatic 126, 3) := by decide +kernel
theorem dX2_bestKind_61 : decode cX2_bestKind 61 = .ok (.aload_n 0, 1) := by decide +kernel
theorem dX2_bestKind_62 : decode cX2_bestKind 62 = .ok (.getfield 13, 3) := by decide +kernel
theorem dX2_bestKind_65 : decode cX2_bestKind 65 = .ok (.iconst 3, 1) := by decide +kernel
theorem dX2_bestKind_66 : decode cX2_bestKind 66 = .ok (.iload_n 1, 1) := by decide +kernel
theorem dX2_bestKind_67 : decode cX2_bestKind 67 = .ok (.iadd, 1) := by decide +kernel
theorem dX2_bestKind_68 : decode cX2_bestKind 68 = .ok (.iload 7, 2) := by decide +kernel
theorem dX2_bestKind_70 : decode cX2_bestKind 70 = .ok (.iastore, 1) := by decide +kernel
theorem dX2_bestKind_71 : decode cX2_bestKind 71 = .ok (.aload_n 0, 1) := by decide +kernel
theorem dX2_bestKind_72 : decode cX2_bestKind 72 = .ok (.iload_n 2, 1) := by decide +kernel
theorem dX2_bestKind_73 : decode cX2_bestKind 73 = .ok (.iload_n 3, 1) := by decide +kernel
theorem dX2_bestKind_74 : decode cX2_bestKind 74 = .ok (.invokevirtual 157, 3) := by decide +kernel
theorem dX2_bestKind_77 : decode cX2_bestKind 77 = .ok (.istore 8, 2) := by decide +kernel
theorem dX2_bestKind_79 : decode cX2_bestKind 79 = .ok (.iload 8, 2) := by decide +kernel
theorem dX2_bestKind_81 : decode cX2_bestKind 81 = .ok (.iload 6, 2) := by decide +kernel
theorem dX2_bestKind_83 : decode cX2_bestKind 83 = .ok (.if_icmp .gt 6, 3) := by decide +kernel
theorem dX2_bestKind_86 : decode cX2_bestKind 86 = .ok (.goto 11, 3) := by decide +kernel
theorem dX2_bestKind_89 : decode cX2_bestKind 89 = .ok (.iload 7, 2) := by decide +kernel
theorem dX2_bestKind_91 : decode cX2_bestKind 91 = .ok (.istore 5, 2) := by decide +kernel
theorem dX2_bestKind_93 : decode cX2_bestKind 93 = .ok (.iload 8, 2) := by decide +kernel
theorem dX2_bestKind_95 : decode cX2_bestKind 95 = .ok (.istore 6, 2) := by decide +kernel
theorem dX2_bestKind_97 : decode cX2_bestKind 97 = .ok (.iinc 7 1, 3) := by decide +kernel
theorem dX2_bestKind_100 : decode cX2_bestKind 100 = .ok (.goto (-57), 3) := by decide +kernel
theorem dX2_bestKind_103 : decode cX2_bestKind 103 = .ok (.iload 5, 2) := by decide +kernel
theorem dX2_bestKind_105 : decode cX2_bestKind 105 = .ok (.ireturn, 1) := by decide +kernel
set_option maxRecDepth 20000 in
theorem ggX2_dryOnes_X2_isDry : GoodIn wsX2_dryOnes wsX2_isDry := goodIn_r _ [5] (by decide +kernel) (by decide +kernel)
set_option maxRecDepth 20000 in
theorem gX2_dryOnes_X2_isDry : GoodIn wsX2_dryOnes (va_wsS RX2 55 yX2_isDry wsX2_isDry) := goodIn_app (goodIn_of _ (by decide +kernel)) ggX2_dryOnes_X2_isDry
theorem dX2_dryOnes_0 : decode cX2_dryOnes 0 = .ok (.iconst 0, 1) := by decide +kernel
theorem dX2_dryOnes_1 : decode cX2_dryOnes 1 = .ok (.istore_n 1, 1) := by decide +kernel
theorem dX2_dryOnes_2 : decode cX2_dryOnes 2 = .ok (.iconst 0, 1) := by decide +kernel
theorem dX2_dryOnes_3 : decode cX2_dryOnes 3 = .ok (.istore_n 2, 1) := by decide +kernel
theorem dX2_dryOnes_4 : decode cX2_dryOnes 4 = .ok (.iload_n 2, 1) := by decide +kernel
theorem dX2_dryOnes_5 : decode cX2_dryOnes 5 = .ok (.bipush 30, 2) := by decide +kernel
theorem dX2_dryOnes_7 : decode cX2_dryOnes 7 = .ok (.if_icmp .ge 30, 3) := by decide +kernel
theorem dX2_dryOnes_10 : decode cX2_dryOnes 10 = .ok (.iload_n 1, 1) := by decide +kernel
theorem dX2_dryOnes_11 : decode cX2_dryOnes 11 = .ok (.aload_n 0, 1) := by decide +kernel
theorem dX2_dryOnes_12 : decode cX2_dryOnes 12 = .ok (.getfield 9, 3) := by decide +kernel
theorem dX2_dryOnes_15 : decode cX2_dryOnes 15 = .ok (.iload_n 2, 1) := by decide +kernel
theorem dX2_dryOnes_16 : decode cX2_dryOnes 16 = .ok (.invokestatic 55, 3) := by decide +kernel
theorem dX2_dryOnes_19 : decode cX2_dryOnes 19 = .ok (.ifCond .eq 9, 3) := by decide +kernel
theorem dX2_dryOnes_22 : decode cX2_dryOnes 22 = .ok (.iconst 1, 1) := by decide +kernel
theorem dX2_dryOnes_23 : decode cX2_dryOnes 23 = .ok (.iload_n 2, 1) := by decide +kernel
theorem dX2_dryOnes_24 : decode cX2_dryOnes 24 = .ok (.ishl, 1) := by decide +kernel
theorem dX2_dryOnes_25 : decode cX2_dryOnes 25 = .ok (.goto 4, 3) := by decide +kernel
theorem dX2_dryOnes_28 : decode cX2_dryOnes 28 = .ok (.iconst 0, 1) := by decide +kernel
theorem dX2_dryOnes_29 : decode cX2_dryOnes 29 = .ok (.ior, 1) := by decide +kernel
theorem dX2_dryOnes_30 : decode cX2_dryOnes 30 = .ok (.istore_n 1, 1) := by decide +kernel
theorem dX2_dryOnes_31 : decode cX2_dryOnes 31 = .ok (.iinc 2 1, 3) := by decide +kernel
theorem dX2_dryOnes_34 : decode cX2_dryOnes 34 = .ok (.goto (-30), 3) := by decide +kernel
theorem dX2_dryOnes_37 : decode cX2_dryOnes 37 = .ok (.iload_n 1, 1) := by decide +kernel
theorem dX2_dryOnes_38 : decode cX2_dryOnes 38 = .ok (.ireturn, 1) := by decide +kernel
set_option maxRecDepth 20000 in
theorem ggX2_together_X2_of : GoodIn wsX2_together wsX2_of := goodIn_r _ [5] (by decide +kernel) (by decide +kernel)
set_option maxRecDepth 20000 in
theorem gX2_together_X2_of : GoodIn wsX2_together (va_wsS RX2 47 yX2_of wsX2_of) := goodIn_app (goodIn_of _ (by decide +kernel)) ggX2_together_X2_of
theorem dX2_together_0 : decode cX2_together 0 = .ok (.iconst 0, 1) := by decide +kernel
theorem dX2_together_1 : decode cX2_together 1 = .ok (.istore_n 1, 1) := by decide +kernel
theorem dX2_together_2 : decode cX2_together 2 = .ok (.iconst 0, 1) := by decide +kernel
theorem dX2_together_3 : decode cX2_together 3 = .ok (.istore_n 2, 1) := by decide +kernel
theorem dX2_together_4 : decode cX2_together 4 = .ok (.iconst 0, 1) := by decide +kernel
theorem dX2_together_5 : decode cX2_together 5 = .ok (.istore_n 3, 1) := by decide +kernel
theorem dX2_together_6 : decode cX2_together 6 = .ok (.iload_n 3, 1) := by decide +kernel
theorem dX2_together_7 : decode cX2_together 7 = .ok (.aload_n 0, 1) := by decide +kernel
theorem dX2_together_8 : decode cX2_together 8 = .ok (.getfield 9, 3) := by decide +kernel
theorem dX2_together_11 : decode cX2_together 11 = .ok (.iconst 0, 1) := by decide +kernel
theorem dX2_together_12 : decode cX2_together 12 = .ok (.iaload, 1) := by decide +kernel
theorem dX2_together_13 : decode cX2_together 13 = .ok (.if_icmp .ge 35, 3) := by decide +kernel
theorem dX2_together_16 : decode cX2_together 16 = .ok (.iconst 1, 1) := by decide +kernel
theorem dX2_together_17 : decode cX2_together 17 = .ok (.aload_n 0, 1) := by decide +kernel
theorem dX2_together_18 : decode cX2_together 18 = .ok (.getfield 9, 3) := by decide +kernel
theorem dX2_together_21 : decode cX2_together 21 = .ok (.iload_n 3, 1) := by decide +kernel
theorem dX2_together_22 : decode cX2_together 22 = .ok (.iconst 0, 1) := by decide +kernel
theorem dX2_together_23 : decode cX2_together 23 = .ok (.invokestatic 47, 3) := by decide +kernel
theorem dX2_together_26 : decode cX2_together 26 = .ok (.iaload, 1) := by decide +kernel
theorem dX2_together_27 : decode cX2_together 27 = .ok (.ishl, 1) := by decide +kernel
theorem dX2_together_28 : decode cX2_together 28 = .ok (.istore 4, 2) := by decide +kernel
theorem dX2_together_30 : decode cX2_together 30 = .ok (.iload_n 2, 1) := by decide +kernel
theorem dX2_together_31 : decode cX2_together 31 = .ok (.iload_n 1, 1) := by decide +kernel
theorem dX2_together_32 : decode cX2_together 32 = .ok (.iload 4, 2) := by decide +kernel
theorem dX2_together_34 : decode cX2_together 34 = .ok (.iand, 1) := by decide +kernel
theorem dX2_together_35 : decode cX2_together 35 = .ok (.ior, 1) := by decide +kernel
theorem dX2_together_36 : decode cX2_together 36 = .ok (.istore_n 2, 1) := by decide +kernel
theorem dX2_together_37 : decode cX2_together 37 = .ok (.iload_n 1, 1) := by decide +kernel
theorem dX2_together_38 : decode cX2_together 38 = .ok (.iload 4, 2) := by decide +kernel
theorem dX2_together_40 : decode cX2_together 40 = .ok (.ior, 1) := by decide +kernel
theorem dX2_together_41 : decode cX2_together 41 = .ok (.istore_n 1, 1) := by decide +kernel
theorem dX2_together_42 : decode cX2_together 42 = .ok (.iinc 3 1, 3) := by decide +kernel
theorem dX2_together_45 : decode cX2_together 45 = .ok (.goto (-39), 3) := by decide +kernel
theorem dX2_together_48 : decode cX2_together 48 = .ok (.iload_n 2, 1) := by decide +kernel
theorem dX2_together_49 : decode cX2_together 49 = .ok (.ireturn, 1) := by decide +kernel
set_option maxRecDepth 20000 in
theorem ggX2_atEdges_X2_of : GoodIn wsX2_atEdges wsX2_of := goodIn_r _ [5] (by decide +kernel) (by decide +kernel)
set_option maxRecDepth 20000 in
theorem gX2_atEdges_X2_of : GoodIn wsX2_atEdges (va_wsS RX2 47 yX2_of wsX2_of) := goodIn_app (goodIn_of _ (by decide +kernel)) ggX2_atEdges_X2_of
set_option maxRecDepth 20000 in
theorem ggX2_atEdges_X2_nodeThere : GoodIn wsX2_atEdges wsX2_nodeThere := goodIn_r _ [8] (by decide +kernel) (by decide +kernel)
set_option maxRecDepth 20000 in
theorem gX2_atEdges_X2_nodeThere : GoodIn wsX2_atEdges (va_wsS RX2 63 yX2_nodeThere wsX2_nodeThere) := goodIn_app (goodIn_of _ (by decide +kernel)) ggX2_atEdges_X2_nodeThere
theorem dX2_atEdges_0 : decode cX2_atEdges 0 = .ok (.iconst 0, 1) := by decide +kernel
theorem dX2_atEdges_1 : decode cX2_atEdges 1 = .ok (.istore_n 1, 1) := by decide +kernel
theorem dX2_atEdges_2 : decode cX2_atEdges 2 = .ok (.iconst 0, 1) := by decide +kernel
theorem dX2_atEdges_3 : decode cX2_atEdges 3 = .ok (.istore_n 2, 1) := by decide +kernel
theorem dX2_atEdges_4 : decode cX2_atEdges 4 = .ok (.iload_n 2, 1) := by decide +kernel
theorem dX2_atEdges_5 : decode cX2_atEdges 5 = .ok (.aload_n 0, 1) := by decide +kernel
theorem dX2_atEdges_6 : decode cX2_atEdges 6 = .ok (.getfield 9, 3) := by decide +kernel
theorem dX2_atEdges_9 : decode cX2_atEdges 9 = .ok (.iconst 0, 1) := by decide +kernel
theorem dX2_atEdges_10 : decode cX2_atEdges 10 = .ok (.iaload, 1) := by decide +kernel
theorem dX2_atEdges_11 : decode cX2_atEdges 11 = .ok (.if_icmp .ge 70, 3) := by decide +kernel
theorem dX2_atEdges_14 : decode cX2_atEdges 14 = .ok (.aload_n 0, 1) := by decide +kernel
theorem dX2_atEdges_15 : decode cX2_atEdges 15 = .ok (.getfield 9, 3) := by decide +kernel
theorem dX2_atEdges_18 : decode cX2_atEdges 18 = .ok (.iload_n 2, 1) := by decide +kernel
theorem dX2_atEdges_19 : decode cX2_atEdges 19 = .ok (.iconst 0, 1) := by decide +kernel
theorem dX2_atEdges_20 : decode cX2_atEdges 20 = .ok (.invokestatic 47, 3) := by decide +kernel
theorem dX2_atEdges_23 : decode cX2_atEdges 23 = .ok (.iaload, 1) := by decide +kernel
theorem dX2_atEdges_24 : decode cX2_atEdges 24 = .ok (.istore_n 3, 1) := by decide +kernel
theorem dX2_atEdges_25 : decode cX2_atEdges 25 = .ok (.iconst 0, 1) := by decide +kernel
theorem dX2_atEdges_26 : decode cX2_atEdges 26 = .ok (.istore 4, 2) := by decide +kernel
theorem dX2_atEdges_28 : decode cX2_atEdges 28 = .ok (.iconst 0, 1) := by decide +kernel
theorem dX2_atEdges_29 : decode cX2_atEdges 29 = .ok (.istore 5, 2) := by decide +kernel
theorem dX2_atEdges_31 : decode cX2_atEdges 31 = .ok (.iload 5, 2) := by decide +kernel
theorem dX2_atEdges_33 : decode cX2_atEdges 33 = .ok (.iconst 4, 1) := by decide +kernel
theorem dX2_atEdges_34 : decode cX2_atEdges 34 = .ok (.if_icmp .ge 28, 3) := by decide +kernel
theorem dX2_atEdges_37 : decode cX2_atEdges 37 = .ok (.iload 4, 2) := by decide +kernel
theorem dX2_atEdges_39 : decode cX2_atEdges 39 = .ok (.iload_n 3, 1) := by decide +kernel
theorem dX2_atEdges_40 : decode cX2_atEdges 40 = .ok (.iload 5, 2) := by decide +kernel
theorem dX2_atEdges_42 : decode cX2_atEdges 42 = .ok (.invokestatic 63, 3) := by decide +kernel
theorem dX2_atEdges_45 : decode cX2_atEdges 45 = .ok (.ifCond .ge 7, 3) := by decide +kernel
theorem dX2_atEdges_48 : decode cX2_atEdges 48 = .ok (.iconst 1, 1) := by decide +kernel
theorem dX2_atEdges_49 : decode cX2_atEdges 49 = .ok (.goto 4, 3) := by decide +kernel
theorem dX2_atEdges_52 : decode cX2_atEdges 52 = .ok (.iconst 0, 1) := by decide +kernel
theorem dX2_atEdges_53 : decode cX2_atEdges 53 = .ok (.ior, 1) := by decide +kernel
theorem dX2_atEdges_54 : decode cX2_atEdges 54 = .ok (.istore 4, 2) := by decide +kernel
theorem dX2_atEdges_56 : decode cX2_atEdges 56 = .ok (.iinc 5 1, 3) := by decide +kernel
theorem dX2_atEdges_59 : decode cX2_atEdges 59 = .ok (.goto (-28), 3) := by decide +kernel
theorem dX2_atEdges_62 : decode cX2_atEdges 62 = .ok (.iload_n 1, 1) := by decide +kernel
theorem dX2_atEdges_63 : decode cX2_atEdges 63 = .ok (.iload 4, 2) := by decide +kernel
theorem dX2_atEdges_65 : decode cX2_atEdges 65 = .ok (.ifCond .eq 7, 3) := by decide +kernel
theorem dX2_atEdges_68 : decode cX2_atEdges 68 = .ok (.iconst 1, 1) := by decide +kernel
theorem dX2_atEdges_69 : decode cX2_atEdges 69 = .ok (.goto 4, 3) := by decide +kernel
theorem dX2_atEdges_72 : decode cX2_atEdges 72 = .ok (.iconst 0, 1) := by decide +kernel
theorem dX2_atEdges_73 : decode cX2_atEdges 73 = .ok (.iadd, 1) := by decide +kernel
theorem dX2_atEdges_74 : decode cX2_atEdges 74 = .ok (.istore_n 1, 1) := by decide +kernel
theorem dX2_atEdges_75 : decode cX2_atEdges 75 = .ok (.iinc 2 1, 3) := by decide +kernel
theorem dX2_atEdges_78 : decode cX2_atEdges 78 = .ok (.goto (-74), 3) := by decide +kernel
theorem dX2_atEdges_81 : decode cX2_atEdges 81 = .ok (.iload_n 1, 1) := by decide +kernel
theorem dX2_atEdges_82 : decode cX2_atEdges 82 = .ok (.ireturn, 1) := by decide +kernel
theorem dX2_wettest_0 : decode cX2_wettest 0 = .ok (.iconst 0, 1) := by decide +kernel
theorem dX2_wettest_1 : decode cX2_wettest 1 = .ok (.istore_n 1, 1) := by decide +kernel
theorem dX2_wettest_2 : decode cX2_wettest 2 = .ok (.iconst 0, 1) := by decide +kernel
theorem dX2_wettest_3 : decode cX2_wettest 3 = .ok (.istore_n 2, 1) := by decide +kernel
theorem dX2_wettest_4 : decode cX2_wettest 4 = .ok (.iload_n 2, 1) := by decide +kernel
theorem dX2_wettest_5 : decode cX2_wettest 5 = .ok (.bipush 30, 2) := by decide +kernel
theorem dX2_wettest_7 : decode cX2_wettest 7 = .ok (.if_icmp .ge 32, 3) := by decide +kernel
theorem dX2_wettest_10 : decode cX2_wettest 10 = .ok (.aload_n 0, 1) := by decide +kernel
theorem dX2_wettest_11 : decode cX2_wettest 11 = .ok (.getfield 9, 3) := by decide +kernel
theorem dX2_wettest_14 : decode cX2_wettest 14 = .ok (.bipush 63, 2) := by decide +kernel
theorem dX2_wettest_16 : decode cX2_wettest 16 = .ok (.iload_n 2, 1) := by decide +kernel
theorem dX2_wettest_17 : decode cX2_wettest 17 = .ok (.iadd, 1) := by decide +kernel
theorem dX2_wettest_18 : decode cX2_wettest 18 = .ok (.iaload, 1) := by decide +kernel
theorem dX2_wettest_19 : decode cX2_wettest 19 = .ok (.aload_n 0, 1) := by decide +kernel
theorem dX2_wettest_20 : decode cX2_wettest 20 = .ok (.getfield 9, 3) := by decide +kernel
theorem dX2_wettest_23 : decode cX2_wettest 23 = .ok (.bipush 63, 2) := by decide +kernel
theorem dX2_wettest_25 : decode cX2_wettest 25 = .ok (.iload_n 1, 1) := by decide +kernel
theorem dX2_wettest_26 : decode cX2_wettest 26 = .ok (.iadd, 1) := by decide +kernel
theorem dX2_wettest_27 : decode cX2_wettest 27 = .ok (.iaload, 1) := by decide +kernel
theorem dX2_wettest_28 : decode cX2_wettest 28 = .ok (.if_icmp .le 5, 3) := by decide +kernel
theorem dX2_wettest_31 : decode cX2_wettest 31 = .ok (.iload_n 2, 1) := by decide +kernel
theorem dX2_wettest_32 : decode cX2_wettest 32 = .ok (.istore_n 1, 1) := by decide +kernel
theorem dX2_wettest_33 : decode cX2_wettest 33 = .ok (.iinc 2 1, 3) := by decide +kernel
theorem dX2_wettest_36 : decode cX2_wettest 36 = .ok (.goto (-32), 3) := by decide +kernel
theorem dX2_wettest_39 : decode cX2_wettest 39 = .ok (.iload_n 1, 1) := by decide +kernel
theorem dX2_wettest_40 : decode cX2_wettest 40 = .ok (.ireturn, 1) := by decide +kernel
set_option maxRecDepth 20000 in
theorem ggX2_mostHelped_X2_of : GoodIn wsX2_mostHelped wsX2_of := goodIn_r _ [5] (by decide +kernel) (by decide +kernel)
set_option maxRecDepth 20000 in
theorem gX2_mostHelped_X2_of : GoodIn wsX2_mostHelped (va_wsS RX2 47 yX2_of wsX2_of) := goodIn_app (goodIn_of _ (by decide +kernel)) ggX2_mostHelped_X2_of
theorem dX2_mostHelped_0 : decode cX2_mostHelped 0 = .ok (.bipush (-9), 2) := by decide +kernel
theorem dX2_mostHelped_2 : decode cX2_mostHelped 2 = .ok (.istore_n 1, 1) := by decide +kernel
theorem dX2_mostHelped_3 : decode cX2_mostHelped 3 = .ok (.iconst 0, 1) := by decide +kernel
theorem dX2_mostHelped_4 : decode cX2_mostHelped 4 = .ok (.istore_n 2, 1) := by decide +kernel
theorem dX2_mostHelped_5 : decode cX2_mostHelped 5 = .ok (.iload_n 2, 1) := by decide +kernel
theorem dX2_mostHelped_6 : decode cX2_mostHelped 6 = .ok (.aload_n 0, 1) := by decide +kernel
theorem dX2_mostHelped_7 : decode cX2_mostHelped 7 = .ok (.getfield 9, 3) := by decide +kernel
theorem dX2_mostHelped_10 : decode cX2_mostHelped 10 = .ok (.iconst 0, 1) := by decide +kernel
theorem dX2_mostHelped_11 : decode cX2_mostHelped 11 = .ok (.iaload, 1) := by decide +kernel
theorem dX2_mostHelped_12 : decode cX2_mostHelped 12 = .ok (.if_icmp .ge 38, 3) := by decide +kernel
theorem dX2_mostHelped_15 : decode cX2_mostHelped 15 = .ok (.iload_n 1, 1) := by decide +kernel
theorem dX2_mostHelped_16 : decode cX2_mostHelped 16 = .ok (.ifCond .lt 26, 3) := by decide +kernel
theorem dX2_mostHelped_19 : decode cX2_mostHelped 19 = .ok (.aload_n 0, 1) := by decide +kernel
theorem dX2_mostHelped_20 : decode cX2_mostHelped 20 = .ok (.getfield 9, 3) := by decide +kernel
theorem dX2_mostHelped_23 : decode cX2_mostHelped 23 = .ok (.iload_n 2, 1) := by decide +kernel
theorem dX2_mostHelped_24 : decode cX2_mostHelped 24 = .ok (.iconst 2, 1) := by decide +kernel
theorem dX2_mostHelped_25 : decode cX2_mostHelped 25 = .ok (.invokestatic 47, 3) := by decide +kernel
theorem dX2_mostHelped_28 : decode cX2_mostHelped 28 = .ok (.iaload, 1) := by decide +kernel
theorem dX2_mostHelped_29 : decode cX2_mostHelped 29 = .ok (.aload_n 0, 1) := by decide +kernel
theorem dX2_mostHelped_30 : decode cX2_mostHelped 30 = .ok (.getfield 9, 3) := by decide +kernel
theorem dX2_mostHelped_33 : decode cX2_mostHelped 33 = .ok (.iload_n 1, 1) := by decide +kernel
theorem dX2_mostHelped_34 : decode cX2_mostHelped 34 = .ok (.iconst 2, 1) := by decide +kernel
theorem dX2_mostHelped_35 : decode cX2_mostHelped 35 = .ok (.invokestatic 47, 3) := by decide +kernel
theorem dX2_mostHelped_38 : decode cX2_mostHelped 38 = .ok (.iaload, 1) := by decide +kernel
theorem dX2_mostHelped_39 : decode cX2_mostHelped 39 = .ok (.if_icmp .le 5, 3) := by decide +kernel
theorem dX2_mostHelped_42 : decode cX2_mostHelped 42 = .ok (.iload_n 2, 1) := by decide +kernel
theorem dX2_mostHelped_43 : decode cX2_mostHelped 43 = .ok (.istore_n 1, 1) := by decide +kernel
theorem dX2_mostHelped_44 : decode cX2_mostHelped 44 = .ok (.iinc 2 1, 3) := by decide +kernel
theorem dX2_mostHelped_47 : decode cX2_mostHelped 47 = .ok (.goto (-42), 3) := by decide +kernel
theorem dX2_mostHelped_50 : decode cX2_mostHelped 50 = .ok (.iload_n 1, 1) := by decide +kernel
theorem dX2_mostHelped_51 : decode cX2_mostHelped 51 = .ok (.ireturn, 1) := by decide +kernel
set_option maxRecDepth 20000 in
theorem ggX2_wettestRow_X2_sumOf : GoodIn wsX2_wettestRow wsX2_sumOf := goodIn_r _ [5] (by decide +kernel) (by decide +kernel)
set_option maxRecDepth 20000 in
theorem gX2_wettestRow_X2_sumOf : GoodIn wsX2_wettestRow (va_wsS RX2 81 yX2_sumOf wsX2_sumOf) := goodIn_app (goodIn_of _ (by decide +kernel)) ggX2_wettestRow_X2_sumOf
theorem dX2_wettestRow_0 : decode cX2_wettestRow 0 = .ok (.iconst 0, 1) := by decide +kernel
theorem dX2_wettestRow_1 : decode cX2_wettestRow 1 = .ok (.istore_n 1, 1) := by decide +kernel
theorem dX2_wettestRow_2 : decode cX2_wettestRow 2 = .ok (.iconst 0, 1) := by decide +kernel
theorem dX2_wettestRow_3 : decode cX2_wettestRow 3 = .ok (.istore_n 2, 1) := by decide +kernel
theorem dX2_wettestRow_4 : decode cX2_wettestRow 4 = .ok (.iload_n 2, 1) := by decide +kernel
theorem dX2_wettestRow_5 : decode cX2_wettestRow 5 = .ok (.iconst 5, 1) := by decide +kernel
theorem dX2_wettestRow_6 : decode cX2_wettestRow 6 = .ok (.if_icmp .ge 48, 3) := by decide +kernel
theorem dX2_wettestRow_9 : decode cX2_wettestRow 9 = .ok (.aload_n 0, 1) := by decide +kernel
theorem dX2_wettestRow_10 : decode cX2_wettestRow 10 = .ok (.getfield 9, 3) := by decide +kernel
theorem dX2_wettestRow_13 : decode cX2_wettestRow 13 = .ok (.bipush 63, 2) := by decide +kernel
theorem dX2_wettestRow_15 : decode cX2_wettestRow 15 = .ok (.bipush 6, 2) := by decide +kernel
theorem dX2_wettestRow_17 : decode cX2_wettestRow 17 = .ok (.iload_n 2, 1) := by decide +kernel
theorem dX2_wettestRow_18 : decode cX2_wettestRow 18 = .ok (.imul, 1) := by decide +kernel
theorem dX2_wettestRow_19 : decode cX2_wettestRow 19 = .ok (.iadd, 1) := by decide +kernel
theorem dX2_wettestRow_20 : decode cX2_wettestRow 20 = .ok (.bipush 6, 2) := by decide +kernel
theorem dX2_wettestRow_22 : decode cX2_wettestRow 22 = .ok (.iconst 1, 1) := by decide +kernel
theorem dX2_wettestRow_23 : decode cX2_wettestRow 23 = .ok (.invokestatic 81, 3) := by decide +kernel
theorem dX2_wettestRow_26 : decode cX2_wettestRow 26 = .ok (.aload_n 0, 1) := by decide +kernel
theorem dX2_wettestRow_27 : decode cX2_wettestRow 27 = .ok (.getfield 9, 3) := by decide +kernel
theorem dX2_wettestRow_30 : decode cX2_wettestRow 30 = .ok (.bipush 63, 2) := by decide +kernel
theorem dX2_wettestRow_32 : decode cX2_wettestRow 32 = .ok (.bipush 6, 2) := by decide +kernel
theorem dX2_wettestRow_34 : decode cX2_wettestRow 34 = .ok (.iload_n 1, 1) := by decide +kernel
theorem dX2_wettestRow_35 : decode cX2_wettestRow 35 = .ok (.imul, 1) := by decide +kernel
theorem dX2_wettestRow_36 : decode cX2_wettestRow 36 = .ok (.iadd, 1) := by decide +kernel
theorem dX2_wettestRow_37 : decode cX2_wettestRow 37 = .ok (.bipush 6, 2) := by decide +kernel
theorem dX2_wettestRow_39 : decode cX2_wettestRow 39 = .ok (.iconst 1, 1) := by decide +kernel
theorem dX2_wettestRow_40 : decode cX2_wettestRow 40 = .ok (.invokestatic 81, 3) := by decide +kernel
theorem dX2_wettestRow_43 : decode cX2_wettestRow 43 = .ok (.if_icmp .le 5, 3) := by decide +kernel
theorem dX2_wettestRow_46 : decode cX2_wettestRow 46 = .ok (.iload_n 2, 1) := by decide +kernel
theorem dX2_wettestRow_47 : decode cX2_wettestRow 47 = .ok (.istore_n 1, 1) := by decide +kernel
theorem dX2_wettestRow_48 : decode cX2_wettestRow 48 = .ok (.iinc 2 1, 3) := by decide +kernel
theorem dX2_wettestRow_51 : decode cX2_wettestRow 51 = .ok (.goto (-47), 3) := by decide +kernel
theorem dX2_wettestRow_54 : decode cX2_wettestRow 54 = .ok (.iload_n 1, 1) := by decide +kernel
theorem dX2_wettestRow_55 : decode cX2_wettestRow 55 = .ok (.ireturn, 1) := by decide +kernel
set_option maxRecDepth 20000 in
theorem ggX2_dry_X2_dryOnes : GoodIn wsX2_dry wsX2_dryOnes := goodIn_r _ [6, 1, 7, 8, 5, 9, 50, 51, 52, 53, 54, 55, 56, 57, 58, 59, 60, 61, 62, 63] (by decide +kernel) (by decide +kernel)
set_option maxRecDepth 20000 in
theorem gX2_dry_X2_dryOnes : GoodIn wsX2_dry (wsV RX2 171 RX2 yX2_dryOnes wsX2_dryOnes) := goodIn_app (goodIn_of _ (by decide +kernel)) ggX2_dry_X2_dryOnes
set_option maxRecDepth 20000 in
theorem ggX2_dry_X2_bits : GoodIn wsX2_dry wsX2_bits := goodIn_r _ [12] (by decide +kernel) (by decide +kernel)
set_option maxRecDepth 20000 in
theorem gX2_dry_X2_bits : GoodIn wsX2_dry (va_wsS RX2 154 yX2_bits wsX2_bits) := goodIn_app (goodIn_of _ (by decide +kernel)) ggX2_dry_X2_bits
set_option maxRecDepth 20000 in
theorem ggX2_dry_X2_wettest : GoodIn wsX2_dry wsX2_wettest := goodIn_r _ [16, 1, 50, 51, 52, 53, 54, 55, 56, 57, 58, 59, 60, 61, 62, 63] (by decide +kernel) (by decide +kernel)
set_option maxRecDepth 20000 in
theorem gX2_dry_X2_wettest : GoodIn wsX2_dry (wsV RX2 174 RX2 yX2_wettest wsX2_wettest) := goodIn_app (goodIn_of _ (by decide +kernel)) ggX2_dry_X2_wettest
set_option maxRecDepth 20000 in
theorem ggX2_dry_X2_allWet : GoodIn wsX2_dry wsX2_allWet := goodIn_r _ [19, 20, 21, 5, 22] (by decide +kernel) (by decide +kernel)
set_option maxRecDepth 20000 in
theorem gX2_dry_X2_allWet : GoodIn wsX2_dry (va_wsS RX2 143 yX2_allWet wsX2_allWet) := goodIn_app (goodIn_of _ (by decide +kernel)) ggX2_dry_X2_allWet
set_option maxRecDepth 20000 in
theorem ggX2_dry_X2_mostHelped : GoodIn wsX2_dry wsX2_mostHelped := goodIn_r _ [26, 1, 27, 28, 5, 29, 50, 51, 52, 53, 54, 55, 56, 57, 58, 59, 60, 61, 62, 63] (by decide +kernel) (by decide +kernel)
set_option maxRecDepth 20000 in
theorem gX2_dry_X2_mostHelped : GoodIn wsX2_dry (wsV RX2 177 RX2 yX2_mostHelped wsX2_mostHelped) := goodIn_app (goodIn_of _ (by decide +kernel)) ggX2_dry_X2_mostHelped
set_option maxRecDepth 20000 in
theorem ggX2_dry_X2_together : GoodIn wsX2_dry wsX2_together := goodIn_r _ [33, 1, 27, 28, 5, 29, 50, 51, 52, 53, 54, 55, 56, 57, 58, 59, 60, 61, 62, 63] (by decide +kernel) (by decide +kernel)
set_option maxRecDepth 20000 in
theorem gX2_dry_X2_together : GoodIn wsX2_dry (wsV RX2 180 RX2 yX2_together wsX2_together) := goodIn_app (goodIn_of _ (by decide +kernel)) ggX2_dry_X2_together
set_option maxRecDepth 20000 in
theorem ggX2_dry_X2_atEdges : GoodIn wsX2_dry wsX2_atEdges := goodIn_r _ [37, 1, 27, 28, 5, 29, 38, 39, 40, 50, 51, 52, 53, 54, 55, 56, 57, 58, 59, 60, 61, 62, 63] (by decide +kernel) (by decide +kernel)
set_option maxRecDepth 20000 in
theorem gX2_dry_X2_atEdges : GoodIn wsX2_dry (wsV RX2 183 RX2 yX2_atEdges wsX2_atEdges) := goodIn_app (goodIn_of _ (by decide +kernel)) ggX2_dry_X2_atEdges
set_option maxRecDepth 20000 in
theorem ggX2_dry_X2_wettestRow : GoodIn wsX2_dry wsX2_wettestRow := goodIn_r _ [44, 1, 20, 21, 5, 22, 50, 51, 52, 53, 54, 55, 56, 57, 58, 59, 60, 61, 62, 63] (by decide +kernel) (by decide +kernel)
set_option maxRecDepth 20000 in
theorem gX2_dry_X2_wettestRow : GoodIn wsX2_dry (wsV RX2 186 RX2 yX2_wettestRow wsX2_wettestRow) := goodIn_app (goodIn_of _ (by decide +kernel)) ggX2_dry_X2_wettestRow
set_option maxRecDepth 20000 in
theorem ggX2_dry_X2_no : GoodIn wsX2_dry wsX2_no := goodIn_r _ [48, 49, 50, 51, 52, 53, 54, 55, 56, 57, 58, 59, 60, 61, 62, 63] (by decide +kernel) (by decide +kernel)
set_option maxRecDepth 20000 in
theorem gX2_dry_X2_no : GoodIn wsX2_dry (wsV RX2 39 RX2 yX2_no wsX2_no) := goodIn_app (goodIn_of _ (by decide +kernel)) ggX2_dry_X2_no
theorem dX2_dry_0 : decode cX2_dry 0 = .ok (.iload_n 1, 1) := by decide +kernel
theorem dX2_dry_1 : decode cX2_dry 1 = .ok (.tableswitch 84 0 6 #[43, 51, 56, 64, 69, 74, 79], 43) := by decide +kernel
theorem dX2_dry_44 : decode cX2_dry 44 = .ok (.aload_n 0, 1) := by decide +kernel
theorem dX2_dry_45 : decode cX2_dry 45 = .ok (.invokevirtual 171, 3) := by decide +kernel
theorem dX2_dry_48 : decode cX2_dry 48 = .ok (.invokestatic 154, 3) := by decide +kernel
theorem dX2_dry_51 : decode cX2_dry 51 = .ok (.ireturn, 1) := by decide +kernel
theorem dX2_dry_52 : decode cX2_dry 52 = .ok (.aload_n 0, 1) := by decide +kernel
theorem dX2_dry_53 : decode cX2_dry 53 = .ok (.invokevirtual 174, 3) := by decide +kernel
theorem dX2_dry_56 : decode cX2_dry 56 = .ok (.ireturn, 1) := by decide +kernel
theorem dX2_dry_57 : decode cX2_dry 57 = .ok (.aload_n 0, 1) := by decide +kernel
theorem dX2_dry_58 : decode cX2_dry 58 = .ok (.getfield 9, 3) := by decide +kernel
theorem dX2_dry_61 : decode cX2_dry 61 = .ok (.invokestatic 143, 3) := by decide +kernel
theorem dX2_dry_64 : decode cX2_dry 64 = .ok (.ireturn, 1) := by decide +kernel
theorem dX2_dry_65 : decode cX2_dry 65 = .ok (.aload_n 0, 1) := by decide +kernel
theorem dX2_dry_66 : decode cX2_dry 66 = .ok (.invokevirtual 177, 3) := by decide +kernel
theorem dX2_dry_69 : decode cX2_dry 69 = .ok (.ireturn, 1) := by decide +kernel
theorem dX2_dry_70 : decode cX2_dry 70 = .ok (.aload_n 0, 1) := by decide +kernel
theorem dX2_dry_71 : decode cX2_dry 71 = .ok (.invokevirtual 180, 3) := by decide +kernel
theorem dX2_dry_74 : decode cX2_dry 74 = .ok (.ireturn, 1) := by decide +kernel
theorem dX2_dry_75 : decode cX2_dry 75 = .ok (.aload_n 0, 1) := by decide +kernel
theorem dX2_dry_76 : decode cX2_dry 76 = .ok (.invokevirtual 183, 3) := by decide +kernel
theorem dX2_dry_79 : decode cX2_dry 79 = .ok (.ireturn, 1) := by decide +kernel
theorem dX2_dry_80 : decode cX2_dry 80 = .ok (.aload_n 0, 1) := by decide +kernel
theorem dX2_dry_81 : decode cX2_dry 81 = .ok (.invokevirtual 186, 3) := by decide +kernel
theorem dX2_dry_84 : decode cX2_dry 84 = .ok (.ireturn, 1) := by decide +kernel
theorem dX2_dry_85 : decode cX2_dry 85 = .ok (.aload_n 0, 1) := by decide +kernel
theorem dX2_dry_86 : decode cX2_dry 86 = .ok (.bipush (-2), 2) := by decide +kernel
theorem dX2_dry_88 : decode cX2_dry 88 = .ok (.invokevirtual 39, 3) := by decide +kernel
theorem dX2_dry_91 : decode cX2_dry 91 = .ok (.ireturn, 1) := by decide +kernel
set_option maxRecDepth 20000 in
theorem ggX2_kinds_X2_isIn : GoodIn wsX2_kinds wsX2_isIn := goodIn_r _ [5] (by decide +kernel) (by decide +kernel)
set_option maxRecDepth 20000 in
theorem gX2_kinds_X2_isIn : GoodIn wsX2_kinds (va_wsS RX2 43 yX2_isIn wsX2_isIn) := goodIn_app (goodIn_of _ (by decide +kernel)) ggX2_kinds_X2_isIn
set_option maxRecDepth 20000 in
theorem ggX2_kinds_X2_no : GoodIn wsX2_kinds wsX2_no := goodIn_r _ [9, 10, 11, 12, 13, 14, 15, 16, 17, 18, 19, 20, 21, 22, 23, 24] (by decide +kernel) (by decide +kernel)
set_option maxRecDepth 20000 in
theorem gX2_kinds_X2_no : GoodIn wsX2_kinds (wsV RX2 39 RX2 yX2_no wsX2_no) := goodIn_app (goodIn_of _ (by decide +kernel)) ggX2_kinds_X2_no
theorem dX2_kinds_0 : decode cX2_kinds 0 = .ok (.iload_n 1, 1) := by decide +kernel
theorem dX2_kinds_1 : decode cX2_kinds 1 = .ok (.iconst 0, 1) := by decide +kernel
theorem dX2_kinds_2 : decode cX2_kinds 2 = .ok (.iconst 5, 1) := by decide +kernel
theorem dX2_kinds_3 : decode cX2_kinds 3 = .ok (.invokestatic 43, 3) := by decide +kernel
theorem dX2_kinds_6 : decode cX2_kinds 6 = .ok (.ifCond .ne 10, 3) := by decide +kernel
theorem dX2_kinds_9 : decode cX2_kinds 9 = .ok (.aload_n 0, 1) := by decide +kernel
theorem dX2_kinds_10 : decode cX2_kinds 10 = .ok (.bipush (-2), 2) := by decide +kernel
theorem dX2_kinds_12 : decode cX2_kinds 12 = .ok (.invokevirtual 39, 3) := by decide +kernel
theorem dX2_kinds_15 : decode cX2_kinds 15 = .ok (.ireturn, 1) := by decide +kernel
theorem dX2_kinds_16 : decode cX2_kinds 16 = .ok (.iconst 0, 1) := by decide +kernel
theorem dX2_kinds_17 : decode cX2_kinds 17 = .ok (.istore_n 2, 1) := by decide +kernel
theorem dX2_kinds_18 : decode cX2_kinds 18 = .ok (.iconst 0, 1) := by decide +kernel
theorem dX2_kinds_19 : decode cX2_kinds 19 = .ok (.istore_n 3, 1) := by decide +kernel
theorem dX2_kinds_20 : decode cX2_kinds 20 = .ok (.iload_n 3, 1) := by decide +kernel
theorem dX2_kinds_21 : decode cX2_kinds 21 = .ok (.bipush 30, 2) := by decide +kernel
theorem dX2_kinds_23 : decode cX2_kinds 23 = .ok (.if_icmp .ge 29, 3) := by decide +kernel
theorem dX2_kinds_26 : decode cX2_kinds 26 = .ok (.iload_n 2, 1) := by decide +kernel
theorem dX2_kinds_27 : decode cX2_kinds 27 = .ok (.aload_n 0, 1) := by decide +kernel
theorem dX2_kinds_28 : decode cX2_kinds 28 = .ok (.getfield 9, 3) := by decide +kernel
theorem dX2_kinds_31 : decode cX2_kinds 31 = .ok (.iconst 3, 1) := by decide +kernel
theorem dX2_kinds_32 : decode cX2_kinds 32 = .ok (.iload_n 3, 1) := by decide +kernel
theorem dX2_kinds_33 : decode cX2_kinds 33 = .ok (.iadd, 1) := by decide +kernel
theorem dX2_kinds_34 : decode cX2_kinds 34 = .ok (.iaload, 1) := by decide +kernel
theorem dX2_kinds_35 : decode cX2_kinds 35 = .ok (.iload_n 1, 1) := by decide +kernel
theorem dX2_kinds_36 : decode cX2_kinds 36 = .ok (.if_icmp .ne 7, 3) := by decide +kernel
theorem dX2_kinds_39 : decode cX2_kinds 39 = .ok (.iconst 1, 1) := by decide +kernel
theorem dX2_kinds_40 : decode cX2_kinds 40 = .ok (.goto 4, 3) := by decide +kernel
theorem dX2_kinds_43 : decode cX2_kinds 43 = .ok (.iconst 0, 1) := by decide +kernel
theorem dX2_kinds_44 : decode cX2_kinds 44 = .ok (.iadd, 1) := by decide +kernel
theorem dX2_kinds_45 : decode cX2_kinds 45 = .ok (.istore_n 2, 1) := by decide +kernel
theorem dX2_kinds_46 : decode cX2_kinds 46 = .ok (.iinc 3 1, 3) := by decide +kernel
theorem dX2_kinds_49 : decode cX2_kinds 49 = .ok (.goto (-29), 3) := by decide +kernel
theorem dX2_kinds_52 : decode cX2_kinds 52 = .ok (.iload_n 2, 1) := by decide +kernel
theorem dX2_kinds_53 : decode cX2_kinds 53 = .ok (.ireturn, 1) := by decide +kernel
set_option maxRecDepth 20000 in
theorem ggX2_farOf_X2_apart : GoodIn wsX2_farOf wsX2_apart := goodIn_r _ [4] (by decide +kernel) (by decide +kernel)
set_option maxRecDepth 20000 in
theorem gX2_farOf_X2_apart : GoodIn wsX2_farOf (va_wsS RX2 189 yX2_apart wsX2_apart) := goodIn_app (goodIn_of _ (by decide +kernel)) ggX2_farOf_X2_apart
theorem dX2_farOf_0 : decode cX2_farOf 0 = .ok (.iload_n 0, 1) := by decide +kernel
theorem dX2_farOf_1 : decode cX2_farOf 1 = .ok (.bipush 6, 2) := by decide +kernel
theorem dX2_farOf_3 : decode cX2_farOf 3 = .ok (.idiv, 1) := by decide +kernel
theorem dX2_farOf_4 : decode cX2_farOf 4 = .ok (.iload_n 1, 1) := by decide +kernel
theorem dX2_farOf_5 : decode cX2_farOf 5 = .ok (.bipush 6, 2) := by decide +kernel
theorem dX2_farOf_7 : decode cX2_farOf 7 = .ok (.idiv, 1) := by decide +kernel
theorem dX2_farOf_8 : decode cX2_farOf 8 = .ok (.invokestatic 189, 3) := by decide +kernel
theorem dX2_farOf_11 : decode cX2_farOf 11 = .ok (.iload_n 0, 1) := by decide +kernel
theorem dX2_farOf_12 : decode cX2_farOf 12 = .ok (.bipush 6, 2) := by decide +kernel
theorem dX2_farOf_14 : decode cX2_farOf 14 = .ok (.irem, 1) := by decide +kernel
theorem dX2_farOf_15 : decode cX2_farOf 15 = .ok (.iload_n 1, 1) := by decide +kernel
theorem dX2_farOf_16 : decode cX2_farOf 16 = .ok (.bipush 6, 2) := by decide +kernel
theorem dX2_farOf_18 : decode cX2_farOf 18 = .ok (.irem, 1) := by decide +kernel
theorem dX2_farOf_19 : decode cX2_farOf 19 = .ok (.invokestatic 189, 3) := by decide +kernel
theorem dX2_farOf_22 : decode cX2_farOf 22 = .ok (.iadd, 1) := by decide +kernel
theorem dX2_farOf_23 : decode cX2_farOf 23 = .ok (.ireturn, 1) := by decide +kernel
set_option maxRecDepth 20000 in
theorem ggX2_near_X2_isNode : GoodIn wsX2_near wsX2_isNode := goodIn_r _ [5, 6, 7, 4, 8] (by decide +kernel) (by decide +kernel)
set_option maxRecDepth 20000 in
theorem gX2_near_X2_isNode : GoodIn wsX2_near (va_wsS RX2 106 yX2_isNode wsX2_isNode) := goodIn_app (goodIn_of _ (by decide +kernel)) ggX2_near_X2_isNode
set_option maxRecDepth 20000 in
theorem ggX2_near_X2_no : GoodIn wsX2_near wsX2_no := goodIn_r _ [12, 13, 23, 24, 25, 26, 27, 28, 29, 30, 31, 32, 33, 34, 35, 36] (by decide +kernel) (by decide +kernel)
set_option maxRecDepth 20000 in
theorem gX2_near_X2_no : GoodIn wsX2_near (wsV RX2 39 RX2 yX2_no wsX2_no) := goodIn_app (goodIn_of _ (by decide +kernel)) ggX2_near_X2_no
set_option maxRecDepth 20000 in
theorem ggX2_near_X2_of : GoodIn wsX2_near wsX2_of := goodIn_r _ [16] (by decide +kernel) (by decide +kernel)
set_option maxRecDepth 20000 in
theorem gX2_near_X2_of : GoodIn wsX2_near (va_wsS RX2 47 yX2_of wsX2_of) := goodIn_app (goodIn_of _ (by decide +kernel)) ggX2_near_X2_of
set_option maxRecDepth 20000 in
theorem ggX2_near_X2_farOf : GoodIn wsX2_near wsX2_farOf := goodIn_r _ [19, 20, 21, 4, 22] (by decide +kernel) (by decide +kernel)
set_option maxRecDepth 20000 in
theorem gX2_near_X2_farOf : GoodIn wsX2_near (va_wsS RX2 192 yX2_farOf wsX2_farOf) := goodIn_app (goodIn_of _ (by decide +kernel)) ggX2_near_X2_farOf
theorem dX2_near_0 : decode cX2_near 0 = .ok (.iload_n 1, 1) := by decide +kernel
theorem dX2_near_1 : decode cX2_near 1 = .ok (.invokestatic 106, 3) := by decide +kernel
theorem dX2_near_4 : decode cX2_near 4 = .ok (.ifCond .ne 9, 3) := by decide +kernel
theorem dX2_near_7 : decode cX2_near 7 = .ok (.aload_n 0, 1) := by decide +kernel
theorem dX2_near_8 : decode cX2_near 8 = .ok (.iconst (-1), 1) := by decide +kernel
theorem dX2_near_9 : decode cX2_near 9 = .ok (.invokevirtual 39, 3) := by decide +kernel
theorem dX2_near_12 : decode cX2_near 12 = .ok (.ireturn, 1) := by decide +kernel
theorem dX2_near_13 : decode cX2_near 13 = .ok (.bipush (-9), 2) := by decide +kernel
theorem dX2_near_15 : decode cX2_near 15 = .ok (.istore_n 2, 1) := by decide +kernel
theorem dX2_near_16 : decode cX2_near 16 = .ok (.iconst 0, 1) := by decide +kernel
theorem dX2_near_17 : decode cX2_near 17 = .ok (.istore_n 3, 1) := by decide +kernel
theorem dX2_near_18 : decode cX2_near 18 = .ok (.iload_n 3, 1) := by decide +kernel
theorem dX2_near_19 : decode cX2_near 19 = .ok (.aload_n 0, 1) := by decide +kernel
theorem dX2_near_20 : decode cX2_near 20 = .ok (.getfield 9, 3) := by decide +kernel
theorem dX2_near_23 : decode cX2_near 23 = .ok (.iconst 0, 1) := by decide +kernel
theorem dX2_near_24 : decode cX2_near 24 = .ok (.iaload, 1) := by decide +kernel
theorem dX2_near_25 : decode cX2_near 25 = .ok (.if_icmp .ge 46, 3) := by decide +kernel
theorem dX2_near_28 : decode cX2_near 28 = .ok (.iload_n 2, 1) := by decide +kernel
theorem dX2_near_29 : decode cX2_near 29 = .ok (.ifCond .lt 34, 3) := by decide +kernel
theorem dX2_near_32 : decode cX2_near 32 = .ok (.aload_n 0, 1) := by decide +kernel
theorem dX2_near_33 : decode cX2_near 33 = .ok (.getfield 9, 3) := by decide +kernel
theorem dX2_near_36 : decode cX2_near 36 = .ok (.iload_n 3, 1) := by decide +kernel
theorem dX2_near_37 : decode cX2_near 37 = .ok (.iconst 0, 1) := by decide +kernel
theorem dX2_near_38 : decode cX2_near 38 = .ok (.invokestatic 47, 3) := by decide +kernel
theorem dX2_near_41 : decode cX2_near 41 = .ok (.iaload, 1) := by decide +kernel
theorem dX2_near_42 : decode cX2_near 42 = .ok (.iload_n 1, 1) := by decide +kernel
theorem dX2_near_43 : decode cX2_near 43 = .ok (.invokestatic 192, 3) := by decide +kernel
theorem dX2_near_46 : decode cX2_near 46 = .ok (.aload_n 0, 1) := by decide +kernel
theorem dX2_near_47 : decode cX2_near 47 = .ok (.getfield 9, 3) := by decide +kernel
theorem dX2_near_50 : decode cX2_near 50 = .ok (.iload_n 2, 1) := by decide +kernel
theorem dX2_near_51 : decode cX2_near 51 = .ok (.iconst 0, 1) := by decide +kernel
theorem dX2_near_52 : decode cX2_near 52 = .ok (.invokestatic 47, 3) := by decide +kernel
theorem dX2_near_55 : decode cX2_near 55 = .ok (.iaload, 1) := by decide +kernel
theorem dX2_near_56 : decode cX2_near 56 = .ok (.iload_n 1, 1) := by decide +kernel
theorem dX2_near_57 : decode cX2_near 57 = .ok (.invokestatic 192, 3) := by decide +kernel
theorem dX2_near_60 : decode cX2_near 60 = .ok (.if_icmp .ge 5, 3) := by decide +kernel
theorem dX2_near_63 : decode cX2_near 63 = .ok (.iload_n 3, 1) := by decide +kernel
theorem dX2_near_64 : decode cX2_near 64 = .ok (.istore_n 2, 1) := by decide +kernel
theorem dX2_near_65 : decode cX2_near 65 = .ok (.iinc 3 1, 3) := by decide +kernel
theorem dX2_near_68 : decode cX2_near 68 = .ok (.goto (-50), 3) := by decide +kernel
theorem dX2_near_71 : decode cX2_near 71 = .ok (.iload_n 2, 1) := by decide +kernel
theorem dX2_near_72 : decode cX2_near 72 = .ok (.ireturn, 1) := by decide +kernel
set_option maxRecDepth 20000 in
theorem ggX2_hasBy_X2_copies : GoodIn wsX2_hasBy wsX2_copies := goodIn_r _ [6] (by decide +kernel) (by decide +kernel)
set_option maxRecDepth 20000 in
theorem gX2_hasBy_X2_copies : GoodIn wsX2_hasBy (va_wsS RX2 126 yX2_copies wsX2_copies) := goodIn_app (goodIn_of _ (by decide +kernel)) ggX2_hasBy_X2_copies
set_option maxRecDepth 20000 in
theorem ggX2_hasBy_X2_step : GoodIn wsX2_hasBy wsX2_step := goodIn_r _ [9, 10, 11, 5, 12, 13, 14, 15, 16, 17, 18, 19, 20, 21, 22, 23, 24, 25, 26, 27, 28, 29, 30, 31, 32, 33] (by decide +kernel) (by decide +kernel)
set_option maxRecDepth 20000 in
theorem gX2_hasBy_X2_step : GoodIn wsX2_hasBy (va_wsS RX2 77 yX2_step wsX2_step) := goodIn_app (goodIn_of _ (by decide +kernel)) ggX2_hasBy_X2_step
set_option maxRecDepth 20000 in
theorem ggX2_hasBy_X2_of : GoodIn wsX2_hasBy wsX2_of := goodIn_r _ [18] (by decide +kernel) (by decide +kernel)
set_option maxRecDepth 20000 in
theorem gX2_hasBy_X2_of : GoodIn wsX2_hasBy (va_wsS RX2 47 yX2_of wsX2_of) := goodIn_app (goodIn_of _ (by decide +kernel)) ggX2_hasBy_X2_of
set_option maxRecDepth 20000 in
theorem ggX2_hasBy_X2_bits : GoodIn wsX2_hasBy wsX2_bits := goodIn_r _ [36] (by decide +kernel) (by decide +kernel)
set_option maxRecDepth 20000 in
theorem gX2_hasBy_X2_bits : GoodIn wsX2_hasBy (va_wsS RX2 154 yX2_bits wsX2_bits) := goodIn_app (goodIn_of _ (by decide +kernel)) ggX2_hasBy_X2_bits
theorem dX2_hasBy_0 : decode cX2_hasBy 0 = .ok (.aload_n 0, 1) := by decide +kernel
theorem dX2_hasBy_1 : decode cX2_hasBy 1 = .ok (.getfield 9, 3) := by decide +kernel
theorem dX2_hasBy_4 : decode cX2_hasBy 4 = .ok (.aload_n 0, 1) := by decide +kernel
theorem dX2_hasBy_5 : decode cX2_hasBy 5 = .ok (.getfield 13, 3) := by decide +kernel
theorem dX2_hasBy_8 : decode cX2_hasBy 8 = .ok (.invokestatic 126, 3) := by decide +kernel
theorem dX2_hasBy_11 : decode cX2_hasBy 11 = .ok (.aload_n 0, 1) := by decide +kernel
theorem dX2_hasBy_12 : decode cX2_hasBy 12 = .ok (.getfield 13, 3) := by decide +kernel
theorem dX2_hasBy_15 : decode cX2_hasBy 15 = .ok (.iconst 2, 1) := by decide +kernel
theorem dX2_hasBy_16 : decode cX2_hasBy 16 = .ok (.iconst 1, 1) := by decide +kernel
theorem dX2_hasBy_17 : decode cX2_hasBy 17 = .ok (.iload_n 3, 1) := by decide +kernel
theorem dX2_hasBy_18 : decode cX2_hasBy 18 = .ok (.isub, 1) := by decide +kernel
theorem dX2_hasBy_19 : decode cX2_hasBy 19 = .ok (.iload_n 2, 1) := by decide +kernel
theorem dX2_hasBy_20 : decode cX2_hasBy 20 = .ok (.ishl, 1) := by decide +kernel
theorem dX2_hasBy_21 : decode cX2_hasBy 21 = .ok (.iconst 1, 1) := by decide +kernel
theorem dX2_hasBy_22 : decode cX2_hasBy 22 = .ok (.iload 5, 2) := by decide +kernel
theorem dX2_hasBy_24 : decode cX2_hasBy 24 = .ok (.isub, 1) := by decide +kernel
theorem dX2_hasBy_25 : decode cX2_hasBy 25 = .ok (.iload 4, 2) := by decide +kernel
theorem dX2_hasBy_27 : decode cX2_hasBy 27 = .ok (.ishl, 1) := by decide +kernel
theorem dX2_hasBy_28 : decode cX2_hasBy 28 = .ok (.ior, 1) := by decide +kernel
theorem dX2_hasBy_29 : decode cX2_hasBy 29 = .ok (.iastore, 1) := by decide +kernel
theorem dX2_hasBy_30 : decode cX2_hasBy 30 = .ok (.iconst 0, 1) := by decide +kernel
theorem dX2_hasBy_31 : decode cX2_hasBy 31 = .ok (.istore 7, 2) := by decide +kernel
theorem dX2_hasBy_33 : decode cX2_hasBy 33 = .ok (.iconst 0, 1) := by decide +kernel
theorem dX2_hasBy_34 : decode cX2_hasBy 34 = .ok (.istore 8, 2) := by decide +kernel
theorem dX2_hasBy_36 : decode cX2_hasBy 36 = .ok (.iconst 0, 1) := by decide +kernel
theorem dX2_hasBy_37 : decode cX2_hasBy 37 = .ok (.istore 9, 2) := by decide +kernel
theorem dX2_hasBy_39 : decode cX2_hasBy 39 = .ok (.iload 9, 2) := by decide +kernel
theorem dX2_hasBy_41 : decode cX2_hasBy 41 = .ok (.iload 6, 2) := by decide +kernel
theorem dX2_hasBy_43 : decode cX2_hasBy 43 = .ok (.if_icmp .gt 72, 3) := by decide +kernel
theorem dX2_hasBy_46 : decode cX2_hasBy 46 = .ok (.iload 9, 2) := by decide +kernel
theorem dX2_hasBy_48 : decode cX2_hasBy 48 = .ok (.ifCond .le 10, 3) := by decide +kernel
theorem dX2_hasBy_51 : decode cX2_hasBy 51 = .ok (.aload_n 0, 1) := by decide +kernel
theorem dX2_hasBy_52 : decode cX2_hasBy 52 = .ok (.getfield 13, 3) := by decide +kernel
theorem dX2_hasBy_55 : decode cX2_hasBy 55 = .ok (.invokestatic 77, 3) := by decide +kernel
theorem dX2_hasBy_58 : decode cX2_hasBy 58 = .ok (.iload 7, 2) := by decide +kernel
theorem dX2_hasBy_60 : decode cX2_hasBy 60 = .ok (.iconst 1, 1) := by decide +kernel
theorem dX2_hasBy_61 : decode cX2_hasBy 61 = .ok (.aload_n 0, 1) := by decide +kernel
theorem dX2_hasBy_62 : decode cX2_hasBy 62 = .ok (.getfield 13, 3) := by decide +kernel
theorem dX2_hasBy_65 : decode cX2_hasBy 65 = .ok (.iload_n 1, 1) := by decide +kernel
theorem dX2_hasBy_66 : decode cX2_hasBy 66 = .ok (.iconst 0, 1) := by decide +kernel
theorem dX2_hasBy_67 : decode cX2_hasBy 67 = .ok (.invokestatic 47, 3) := by decide +kernel
theorem dX2_hasBy_70 : decode cX2_hasBy 70 = .ok (.iaload, 1) := by decide +kernel
theorem dX2_hasBy_71 : decode cX2_hasBy 71 = .ok (.ishl, 1) := by decide +kernel
theorem dX2_hasBy_72 : decode cX2_hasBy 72 = .ok (.ior, 1) := by decide +kernel
theorem dX2_hasBy_73 : decode cX2_hasBy 73 = .ok (.istore 7, 2) := by decide +kernel
theorem dX2_hasBy_75 : decode cX2_hasBy 75 = .ok (.iload 8, 2) := by decide +kernel
theorem dX2_hasBy_77 : decode cX2_hasBy 77 = .ok (.aload_n 0, 1) := by decide +kernel
theorem dX2_hasBy_78 : decode cX2_hasBy 78 = .ok (.getfield 13, 3) := by decide +kernel
theorem dX2_hasBy_81 : decode cX2_hasBy 81 = .ok (.iload_n 2, 1) := by decide +kernel
theorem dX2_hasBy_82 : decode cX2_hasBy 82 = .ok (.iconst 0, 1) := by decide +kernel
theorem dX2_hasBy_83 : decode cX2_hasBy 83 = .ok (.invokestatic 47, 3) := by decide +kernel
theorem dX2_hasBy_86 : decode cX2_hasBy 86 = .ok (.iaload, 1) := by decide +kernel
theorem dX2_hasBy_87 : decode cX2_hasBy 87 = .ok (.aload_n 0, 1) := by decide +kernel
theorem dX2_hasBy_88 : decode cX2_hasBy 88 = .ok (.getfield 13, 3) := by decide +kernel
theorem dX2_hasBy_91 : decode cX2_hasBy 91 = .ok (.iload 4, 2) := by decide +kernel
theorem dX2_hasBy_93 : decode cX2_hasBy 93 = .ok (.iconst 0, 1) := by decide +kernel
theorem dX2_hasBy_94 : decode cX2_hasBy 94 = .ok (.invokestatic 47, 3) := by decide +kernel
theorem dX2_hasBy_97 : decode cX2_hasBy 97 = .ok (.iaload, 1) := by decide +kernel
theorem dX2_hasBy_98 : decode cX2_hasBy 98 = .ok (.if_icmp .ne 7, 3) := by decide +kernel
theorem dX2_hasBy_101 : decode cX2_hasBy 101 = .ok (.iconst 1, 1) := by decide +kernel
theorem dX2_hasBy_102 : decode cX2_hasBy 102 = .ok (.goto 4, 3) := by decide +kernel
theorem dX2_hasBy_105 : decode cX2_hasBy 105 = .ok (.iconst 0, 1) := by decide +kernel
theorem dX2_hasBy_106 : decode cX2_hasBy 106 = .ok (.ior, 1) := by decide +kernel
theorem dX2_hasBy_107 : decode cX2_hasBy 107 = .ok (.istore 8, 2) := by decide +kernel
theorem dX2_hasBy_109 : decode cX2_hasBy 109 = .ok (.iinc 9 1, 3) := by decide +kernel
theorem dX2_hasBy_112 : decode cX2_hasBy 112 = .ok (.goto (-73), 3) := by decide +kernel
theorem dX2_hasBy_115 : decode cX2_hasBy 115 = .ok (.iload 7, 2) := by decide +kernel
theorem dX2_hasBy_117 : decode cX2_hasBy 117 = .ok (.invokestatic 154, 3) := by decide +kernel
theorem dX2_hasBy_120 : decode cX2_hasBy 120 = .ok (.iload 8, 2) := by decide +kernel
theorem dX2_hasBy_122 : decode cX2_hasBy 122 = .ok (.ifCond .eq 7, 3) := by decide +kernel
theorem dX2_hasBy_125 : decode cX2_hasBy 125 = .ok (.iconst 2, 1) := by decide +kernel
theorem dX2_hasBy_126 : decode cX2_hasBy 126 = .ok (.goto 4, 3) := by decide +kernel
theorem dX2_hasBy_129 : decode cX2_hasBy 129 = .ok (.iconst 0, 1) := by decide +kernel
theorem dX2_hasBy_130 : decode cX2_hasBy 130 = .ok (.iadd, 1) := by decide +kernel
theorem dX2_hasBy_131 : decode cX2_hasBy 131 = .ok (.ireturn, 1) := by decide +kernel
set_option maxRecDepth 20000 in
theorem ggX2_two_X2_areTwo : GoodIn wsX2_two wsX2_areTwo := goodIn_r _ [5, 6, 7, 8, 4, 9, 10, 11, 12, 13, 60, 61, 62, 63, 64, 65, 66, 67, 68, 69, 70, 71, 72, 73] (by decide +kernel) (by decide +kernel)
set_option maxRecDepth 20000 in
theorem gX2_two_X2_areTwo : GoodIn wsX2_two (wsV RX2 163 RX2 yX2_areTwo wsX2_areTwo) := goodIn_app (goodIn_of _ (by decide +kernel)) ggX2_two_X2_areTwo
set_option maxRecDepth 20000 in
theorem ggX2_two_X2_wrongBy : GoodIn wsX2_two wsX2_wrongBy := goodIn_r _ [16] (by decide +kernel) (by decide +kernel)
set_option maxRecDepth 20000 in
theorem gX2_two_X2_wrongBy : GoodIn wsX2_two (va_wsS RX2 133 yX2_wrongBy wsX2_wrongBy) := goodIn_app (goodIn_of _ (by decide +kernel)) ggX2_two_X2_wrongBy
set_option maxRecDepth 20000 in
theorem ggX2_two_X2_no : GoodIn wsX2_two wsX2_no := goodIn_r _ [20, 21, 60, 61, 62, 63, 64, 65, 66, 67, 68, 69, 70, 71, 72, 73] (by decide +kernel) (by decide +kernel)
set_option maxRecDepth 20000 in
theorem gX2_two_X2_no : GoodIn wsX2_two (wsV RX2 39 RX2 yX2_no wsX2_no) := goodIn_app (goodIn_of _ (by decide +kernel)) ggX2_two_X2_no
set_option maxRecDepth 20000 in
theorem ggX2_two_X2_hasBy : GoodIn wsX2_two wsX2_hasBy := goodIn_r _ [25, 10, 26, 27, 28, 4, 29, 30, 31, 32, 33, 34, 35, 36, 37, 38, 39, 40, 41, 42, 43, 44, 45, 46, 47, 48, 49, 50, 51, 52, 53, 54, 55, 56, 57, 58, 59, 60, 61, 62, 63, 64, 65, 66, 67, 68, 69, 70, 71, 72, 73] (by decide +kernel) (by decide +kernel)
set_option maxRecDepth 20000 in
theorem gX2_two_X2_hasBy : GoodIn wsX2_two (wsV RX2 195 RX2 yX2_hasBy wsX2_hasBy) := goodIn_app (goodIn_of _ (by decide +kernel)) ggX2_two_X2_hasBy
theorem dX2_two_0 : decode cX2_two 0 = .ok (.aload_n 0, 1) := by decide +kernel
theorem dX2_two_1 : decode cX2_two 1 = .ok (.iload_n 1, 1) := by decide +kernel
theorem dX2_two_2 : decode cX2_two 2 = .ok (.iload_n 2, 1) := by decide +kernel
theorem dX2_two_3 : decode cX2_two 3 = .ok (.invokevirtual 163, 3) := by decide +kernel
theorem dX2_two_6 : decode cX2_two 6 = .ok (.ifCond .eq 13, 3) := by decide +kernel
theorem dX2_two_9 : decode cX2_two 9 = .ok (.iload_n 3, 1) := by decide +kernel
theorem dX2_two_10 : decode cX2_two 10 = .ok (.iconst 0, 1) := by decide +kernel
theorem dX2_two_11 : decode cX2_two 11 = .ok (.bipush 30, 2) := by decide +kernel
theorem dX2_two_13 : decode cX2_two 13 = .ok (.invokestatic 133, 3) := by decide +kernel
theorem dX2_two_16 : decode cX2_two 16 = .ok (.goto 4, 3) := by decide +kernel
theorem dX2_two_19 : decode cX2_two 19 = .ok (.iconst (-1), 1) := by decide +kernel
theorem dX2_two_20 : decode cX2_two 20 = .ok (.istore 4, 2) := by decide +kernel
theorem dX2_two_22 : decode cX2_two 22 = .ok (.iload 4, 2) := by decide +kernel
theorem dX2_two_24 : decode cX2_two 24 = .ok (.ifCond .eq 10, 3) := by decide +kernel
theorem dX2_two_27 : decode cX2_two 27 = .ok (.aload_n 0, 1) := by decide +kernel
theorem dX2_two_28 : decode cX2_two 28 = .ok (.iload 4, 2) := by decide +kernel
theorem dX2_two_30 : decode cX2_two 30 = .ok (.invokevirtual 39, 3) := by decide +kernel
theorem dX2_two_33 : decode cX2_two 33 = .ok (.ireturn, 1) := by decide +kernel
theorem dX2_two_34 : decode cX2_two 34 = .ok (.iconst 0, 1) := by decide +kernel
theorem dX2_two_35 : decode cX2_two 35 = .ok (.istore 5, 2) := by decide +kernel
theorem dX2_two_37 : decode cX2_two 37 = .ok (.iload 5, 2) := by decide +kernel
theorem dX2_two_39 : decode cX2_two 39 = .ok (.iconst 4, 1) := by decide +kernel
theorem dX2_two_40 : decode cX2_two 40 = .ok (.if_icmp .ge 88, 3) := by decide +kernel
theorem dX2_two_43 : decode cX2_two 43 = .ok (.iload 5, 2) := by decide +kernel
theorem dX2_two_45 : decode cX2_two 45 = .ok (.iconst 2, 1) := by decide +kernel
theorem dX2_two_46 : decode cX2_two 46 = .ok (.idiv, 1) := by decide +kernel
theorem dX2_two_47 : decode cX2_two 47 = .ok (.istore 6, 2) := by decide +kernel
theorem dX2_two_49 : decode cX2_two 49 = .ok (.iload 5, 2) := by decide +kernel
theorem dX2_two_51 : decode cX2_two 51 = .ok (.iconst 2, 1) := by decide +kernel
theorem dX2_two_52 : decode cX2_two 52 = .ok (.irem, 1) := by decide +kernel
theorem dX2_two_53 : decode cX2_two 53 = .ok (.istore 7, 2) := by decide +kernel
theorem dX2_two_55 : decode cX2_two 55 = .ok (.aload_n 0, 1) := by decide +kernel
theorem dX2_two_56 : decode cX2_two 56 = .ok (.iload_n 1, 1) := by decide +kernel
theorem dX2_two_57 : decode cX2_two 57 = .ok (.iload_n 1, 1) := by decide +kernel
theorem dX2_two_58 : decode cX2_two 58 = .ok (.iconst 1, 1) := by decide +kernel
theorem dX2_two_59 : decode cX2_two 59 = .ok (.iload 6, 2) := by decide +kernel
theorem dX2_two_61 : decode cX2_two 61 = .ok (.isub, 1) := by decide +kernel
theorem dX2_two_62 : decode cX2_two 62 = .ok (.iload_n 2, 1) := by decide +kernel
theorem dX2_two_63 : decode cX2_two 63 = .ok (.iload 7, 2) := by decide +kernel
theorem dX2_two_65 : decode cX2_two 65 = .ok (.iload_n 3, 1) := by decide +kernel
theorem dX2_two_66 : decode cX2_two 66 = .ok (.invokevirtual 195, 3) := by decide +kernel
theorem dX2_two_69 : decode cX2_two 69 = .ok (.aload_n 0, 1) := by decide +kernel
theorem dX2_two_70 : decode cX2_two 70 = .ok (.iload_n 1, 1) := by decide +kernel
theorem dX2_two_71 : decode cX2_two 71 = .ok (.iload_n 1, 1) := by decide +kernel
theorem dX2_two_72 : decode cX2_two 72 = .ok (.iload 6, 2) := by decide +kernel
theorem dX2_two_74 : decode cX2_two 74 = .ok (.iload_n 2, 1) := by decide +kernel
theorem dX2_two_75 : decode cX2_two 75 = .ok (.iload 7, 2) := by decide +kernel
theorem dX2_two_77 : decode cX2_two 77 = .ok (.iload_n 3, 1) := by decide +kernel
theorem dX2_two_78 : decode cX2_two 78 = .ok (.invokevirtual 195, 3) := by decide +kernel
theorem dX2_two_81 : decode cX2_two 81 = .ok (.if_icmp .gt 41, 3) := by decide +kernel
theorem dX2_two_84 : decode cX2_two 84 = .ok (.aload_n 0, 1) := by decide +kernel
theorem dX2_two_85 : decode cX2_two 85 = .ok (.iload_n 2, 1) := by decide +kernel
theorem dX2_two_86 : decode cX2_two 86 = .ok (.iload_n 1, 1) := by decide +kernel
theorem dX2_two_87 : decode cX2_two 87 = .ok (.iload 6, 2) := by decide +kernel
theorem dX2_two_89 : decode cX2_two 89 = .ok (.iload_n 2, 1) := by decide +kernel
theorem dX2_two_90 : decode cX2_two 90 = .ok (.iconst 1, 1) := by decide +kernel
theorem dX2_two_91 : decode cX2_two 91 = .ok (.iload 7, 2) := by decide +kernel
theorem dX2_two_93 : decode cX2_two 93 = .ok (.isub, 1) := by decide +kernel
theorem dX2_two_94 : decode cX2_two 94 = .ok (.iload_n 3, 1) := by decide +kernel
theorem dX2_two_95 : decode cX2_two 95 = .ok (.invokevirtual 195, 3) := by decide +kernel
theorem dX2_two_98 : decode cX2_two 98 = .ok (.aload_n 0, 1) := by decide +kernel
theorem dX2_two_99 : decode cX2_two 99 = .ok (.iload_n 2, 1) := by decide +kernel
theorem dX2_two_100 : decode cX2_two 100 = .ok (.iload_n 1, 1) := by decide +kernel
theorem dX2_two_101 : decode cX2_two 101 = .ok (.iload 6, 2) := by decide +kernel
theorem dX2_two_103 : decode cX2_two 103 = .ok (.iload_n 2, 1) := by decide +kernel
theorem dX2_two_104 : decode cX2_two 104 = .ok (.iload 7, 2) := by decide +kernel
theorem dX2_two_106 : decode cX2_two 106 = .ok (.iload_n 3, 1) := by decide +kernel
theorem dX2_two_107 : decode cX2_two 107 = .ok (.invokevirtual 195, 3) := by decide +kernel
theorem dX2_two_110 : decode cX2_two 110 = .ok (.if_icmp .gt 12, 3) := by decide +kernel
theorem dX2_two_113 : decode cX2_two 113 = .ok (.bipush 10, 2) := by decide +kernel
theorem dX2_two_115 : decode cX2_two 115 = .ok (.iload 6, 2) := by decide +kernel
theorem dX2_two_117 : decode cX2_two 117 = .ok (.imul, 1) := by decide +kernel
theorem dX2_two_118 : decode cX2_two 118 = .ok (.iload 7, 2) := by decide +kernel
theorem dX2_two_120 : decode cX2_two 120 = .ok (.iadd, 1) := by decide +kernel
theorem dX2_two_121 : decode cX2_two 121 = .ok (.ireturn, 1) := by decide +kernel
theorem dX2_two_122 : decode cX2_two 122 = .ok (.iinc 5 1, 3) := by decide +kernel
theorem dX2_two_125 : decode cX2_two 125 = .ok (.goto (-88), 3) := by decide +kernel
theorem dX2_two_128 : decode cX2_two 128 = .ok (.bipush (-9), 2) := by decide +kernel
theorem dX2_two_130 : decode cX2_two 130 = .ok (.ireturn, 1) := by decide +kernel
theorem dX2_gcd_0 : decode cX2_gcd 0 = .ok (.lload_n 0, 1) := by decide +kernel
theorem dX2_gcd_1 : decode cX2_gcd 1 = .ok (.lstore 4, 2) := by decide +kernel
theorem dX2_gcd_3 : decode cX2_gcd 3 = .ok (.lload_n 2, 1) := by decide +kernel
theorem dX2_gcd_4 : decode cX2_gcd 4 = .ok (.lstore 6, 2) := by decide +kernel
theorem dX2_gcd_6 : decode cX2_gcd 6 = .ok (.lload 6, 2) := by decide +kernel
theorem dX2_gcd_8 : decode cX2_gcd 8 = .ok (.lconst 0, 1) := by decide +kernel
theorem dX2_gcd_9 : decode cX2_gcd 9 = .ok (.lcmp, 1) := by decide +kernel
theorem dX2_gcd_10 : decode cX2_gcd 10 = .ok (.ifCond .eq 21, 3) := by decide +kernel
theorem dX2_gcd_13 : decode cX2_gcd 13 = .ok (.lload 4, 2) := by decide +kernel
theorem dX2_gcd_15 : decode cX2_gcd 15 = .ok (.lload 6, 2) := by decide +kernel
theorem dX2_gcd_17 : decode cX2_gcd 17 = .ok (.lrem, 1) := by decide +kernel
theorem dX2_gcd_18 : decode cX2_gcd 18 = .ok (.lstore 8, 2) := by decide +kernel
theorem dX2_gcd_20 : decode cX2_gcd 20 = .ok (.lload 6, 2) := by decide +kernel
theorem dX2_gcd_22 : decode cX2_gcd 22 = .ok (.lstore 4, 2) := by decide +kernel
theorem dX2_gcd_24 : decode cX2_gcd 24 = .ok (.lload 8, 2) := by decide +kernel
theorem dX2_gcd_26 : decode cX2_gcd 26 = .ok (.lstore 6, 2) := by decide +kernel
theorem dX2_gcd_28 : decode cX2_gcd 28 = .ok (.goto (-22), 3) := by decide +kernel
theorem dX2_gcd_31 : decode cX2_gcd 31 = .ok (.lload 4, 2) := by decide +kernel
theorem dX2_gcd_33 : decode cX2_gcd 33 = .ok (.lreturn, 1) := by decide +kernel
set_option maxRecDepth 20000 in
theorem ggX2_partOf_X2_gcd : GoodIn wsX2_partOf wsX2_gcd := goodIn_r _ [4] (by decide +kernel) (by decide +kernel)
set_option maxRecDepth 20000 in
theorem gX2_partOf_X2_gcd : GoodIn wsX2_partOf (va_wsS RX2 199 yX2_gcd wsX2_gcd) := goodIn_app (goodIn_of _ (by decide +kernel)) ggX2_partOf_X2_gcd
theorem dX2_partOf_0 : decode cX2_partOf 0 = .ok (.lload_n 0, 1) := by decide +kernel
theorem dX2_partOf_1 : decode cX2_partOf 1 = .ok (.lconst 0, 1) := by decide +kernel
theorem dX2_partOf_2 : decode cX2_partOf 2 = .ok (.lcmp, 1) := by decide +kernel
theorem dX2_partOf_3 : decode cX2_partOf 3 = .ok (.ifCond .ne 7, 3) := by decide +kernel
theorem dX2_partOf_6 : decode cX2_partOf 6 = .ok (.iload 4, 2) := by decide +kernel
theorem dX2_partOf_8 : decode cX2_partOf 8 = .ok (.i2l, 1) := by decide +kernel
theorem dX2_partOf_9 : decode cX2_partOf 9 = .ok (.lreturn, 1) := by decide +kernel
theorem dX2_partOf_10 : decode cX2_partOf 10 = .ok (.iload 4, 2) := by decide +kernel
theorem dX2_partOf_12 : decode cX2_partOf 12 = .ok (.ifCond .ne 7, 3) := by decide +kernel
theorem dX2_partOf_15 : decode cX2_partOf 15 = .ok (.lload_n 0, 1) := by decide +kernel
theorem dX2_partOf_16 : decode cX2_partOf 16 = .ok (.goto 4, 3) := by decide +kernel
theorem dX2_partOf_19 : decode cX2_partOf 19 = .ok (.lload_n 2, 1) := by decide +kernel
theorem dX2_partOf_20 : decode cX2_partOf 20 = .ok (.lload_n 0, 1) := by decide +kernel
theorem dX2_partOf_21 : decode cX2_partOf 21 = .ok (.lload_n 2, 1) := by decide +kernel
theorem dX2_partOf_22 : decode cX2_partOf 22 = .ok (.invokestatic 199, 3) := by decide +kernel
theorem dX2_partOf_25 : decode cX2_partOf 25 = .ok (.ldiv, 1) := by decide +kernel
theorem dX2_partOf_26 : decode cX2_partOf 26 = .ok (.lreturn, 1) := by decide +kernel
set_option maxRecDepth 20000 in
theorem ggX2_steam_X2_areThere : GoodIn wsX2_steam wsX2_areThere := goodIn_r _ [7, 8, 9, 10, 6, 11, 1, 12, 13, 14, 15, 16, 17, 64, 65, 66, 67, 68, 69, 70, 71, 72, 73, 74, 75, 76, 77] (by decide +kernel) (by decide +kernel)
set_option maxRecDepth 20000 in
theorem gX2_steam_X2_areThere : GoodIn wsX2_steam (wsV RX2 140 RX2 yX2_areThere wsX2_areThere) := goodIn_app (goodIn_of _ (by decide +kernel)) ggX2_steam_X2_areThere
set_option maxRecDepth 20000 in
theorem ggX2_steam_X2_noWide : GoodIn wsX2_steam wsX2_noWide := goodIn_r _ [21, 22, 23, 24, 25, 6, 26, 27, 64, 65, 66, 67, 68, 69, 70, 71, 72, 73, 74, 75, 76, 77] (by decide +kernel) (by decide +kernel)
set_option maxRecDepth 20000 in
theorem gX2_steam_X2_noWide : GoodIn wsX2_steam (wsV RX2 203 RX2 yX2_noWide wsX2_noWide) := goodIn_app (goodIn_of _ (by decide +kernel)) ggX2_steam_X2_noWide
set_option maxRecDepth 20000 in
theorem ggX2_steam_X2_isIn : GoodIn wsX2_steam wsX2_isIn := goodIn_r _ [14] (by decide +kernel) (by decide +kernel)
set_option maxRecDepth 20000 in
theorem gX2_steam_X2_isIn : GoodIn wsX2_steam (va_wsS RX2 43 yX2_isIn wsX2_isIn) := goodIn_app (goodIn_of _ (by decide +kernel)) ggX2_steam_X2_isIn
set_option maxRecDepth 20000 in
theorem ggX2_steam_X2_copies : GoodIn wsX2_steam wsX2_copies := goodIn_r _ [30] (by decide +kernel) (by decide +kernel)
set_option maxRecDepth 20000 in
theorem gX2_steam_X2_copies : GoodIn wsX2_steam (va_wsS RX2 126 yX2_copies wsX2_copies) := goodIn_app (goodIn_of _ (by decide +kernel)) ggX2_steam_X2_copies
set_option maxRecDepth 20000 in
theorem ggX2_steam_X2_has : GoodIn wsX2_steam wsX2_has := goodIn_r _ [33] (by decide +kernel) (by decide +kernel)
set_option maxRecDepth 20000 in
theorem gX2_steam_X2_has : GoodIn wsX2_steam (va_wsS RX2 69 yX2_has wsX2_has) := goodIn_app (goodIn_of _ (by decide +kernel)) ggX2_steam_X2_has
set_option maxRecDepth 20000 in
theorem ggX2_steam_X2_step : GoodIn wsX2_steam wsX2_step := goodIn_r _ [36, 31, 32, 6, 33, 37, 38, 39, 40, 41, 42, 43, 44, 45, 46, 47, 48, 49, 50, 51, 52, 53, 54, 55, 56, 57] (by decide +kernel) (by decide +kernel)
set_option maxRecDepth 20000 in
theorem gX2_steam_X2_step : GoodIn wsX2_steam (va_wsS RX2 77 yX2_step wsX2_step) := goodIn_app (goodIn_of _ (by decide +kernel)) ggX2_steam_X2_step
set_option maxRecDepth 20000 in
theorem ggX2_steam_X2_of : GoodIn wsX2_steam wsX2_of := goodIn_r _ [42] (by decide +kernel) (by decide +kernel)
set_option maxRecDepth 20000 in
theorem gX2_steam_X2_of : GoodIn wsX2_steam (va_wsS RX2 47 yX2_of wsX2_of) := goodIn_app (goodIn_of _ (by decide +kernel)) ggX2_steam_X2_of
set_option maxRecDepth 20000 in
theorem ggX2_steam_X2_partOf : GoodIn wsX2_steam wsX2_partOf := goodIn_r _ [60, 61, 62, 6, 63] (by decide +kernel) (by decide +kernel)
set_option maxRecDepth 20000 in
theorem gX2_steam_X2_partOf : GoodIn wsX2_steam (va_wsS RX2 207 yX2_partOf wsX2_partOf) := goodIn_app (goodIn_of _ (by decide +kernel)) ggX2_steam_X2_partOf
theorem dX2_steam_0 : decode cX2_steam 0 = .ok (.aload_n 0, 1) := by decide +kernel
theorem dX2_steam_1 : decode cX2_steam 1 = .ok (.iload_n 1, 1) := by decide +kernel
theorem dX2_steam_2 : decode cX2_steam 2 = .ok (.iload_n 2, 1) := by decide +kernel
theorem dX2_steam_3 : decode cX2_steam 3 = .ok (.invokevirtual 140, 3) := by decide +kernel
theorem dX2_steam_6 : decode cX2_steam 6 = .ok (.ifCond .ne 9, 3) := by decide +kernel
theorem dX2_steam_9 : decode cX2_steam 9 = .ok (.aload_n 0, 1) := by decide +kernel
theorem dX2_steam_10 : decode cX2_steam 10 = .ok (.iconst (-1), 1) := by decide +kernel
theorem dX2_steam_11 : decode cX2_steam 11 = .ok (.invokevirtual 203, 3) := by decide +kernel
theorem dX2_steam_14 : decode cX2_steam 14 = .ok (.lreturn, 1) := by decide +kernel
theorem dX2_steam_15 : decode cX2_steam 15 = .ok (.iload_n 3, 1) := by decide +kernel
theorem dX2_steam_16 : decode cX2_steam 16 = .ok (.ifCond .lt 9, 3) := by decide +kernel
theorem dX2_steam_19 : decode cX2_steam 19 = .ok (.iload 4, 2) := by decide +kernel
theorem dX2_steam_21 : decode cX2_steam 21 = .ok (.iconst 2, 1) := by decide +kernel
theorem dX2_steam_22 : decode cX2_steam 22 = .ok (.if_icmp .ge 10, 3) := by decide +kernel
theorem dX2_steam_25 : decode cX2_steam 25 = .ok (.aload_n 0, 1) := by decide +kernel
theorem dX2_steam_26 : decode cX2_steam 26 = .ok (.bipush (-4), 2) := by decide +kernel
theorem dX2_steam_28 : decode cX2_steam 28 = .ok (.invokevirtual 203, 3) := by decide +kernel
theorem dX2_steam_31 : decode cX2_steam 31 = .ok (.lreturn, 1) := by decide +kernel
theorem dX2_steam_32 : decode cX2_steam 32 = .ok (.iload_n 3, 1) := by decide +kernel
theorem dX2_steam_33 : decode cX2_steam 33 = .ok (.bipush 7, 2) := by decide +kernel
theorem dX2_steam_35 : decode cX2_steam 35 = .ok (.if_icmp .gt 10, 3) := by decide +kernel
theorem dX2_steam_38 : decode cX2_steam 38 = .ok (.iload 4, 2) := by decide +kernel
theorem dX2_steam_40 : decode cX2_steam 40 = .ok (.bipush 20, 2) := by decide +kernel
theorem dX2_steam_42 : decode cX2_steam 42 = .ok (.if_icmp .le 10, 3) := by decide +kernel
theorem dX2_steam_45 : decode cX2_steam 45 = .ok (.aload_n 0, 1) := by decide +kernel
theorem dX2_steam_46 : decode cX2_steam 46 = .ok (.bipush (-6), 2) := by decide +kernel
theorem dX2_steam_48 : decode cX2_steam 48 = .ok (.invokevirtual 203, 3) := by decide +kernel
theorem dX2_steam_51 : decode cX2_steam 51 = .ok (.lreturn, 1) := by decide +kernel
theorem dX2_steam_52 : decode cX2_steam 52 = .ok (.iload 5, 2) := by decide +kernel
theorem dX2_steam_54 : decode cX2_steam 54 = .ok (.iconst 0, 1) := by decide +kernel
theorem dX2_steam_55 : decode cX2_steam 55 = .ok (.iconst 1, 1) := by decide +kernel
theorem dX2_steam_56 : decode cX2_steam 56 = .ok (.invokestatic 43, 3) := by decide +kernel
theorem dX2_steam_59 : decode cX2_steam 59 = .ok (.ifCond .ne 10, 3) := by decide +kernel
theorem dX2_steam_62 : decode cX2_steam 62 = .ok (.aload_n 0, 1) := by decide +kernel
theorem dX2_steam_63 : decode cX2_steam 63 = .ok (.bipush (-2), 2) := by decide +kernel
theorem dX2_steam_65 : decode cX2_steam 65 = .ok (.invokevirtual 203, 3) := by decide +kernel
theorem dX2_steam_68 : decode cX2_steam 68 = .ok (.lreturn, 1) := by decide +kernel
theorem dX2_steam_69 : decode cX2_steam 69 = .ok (.lconst 0, 1) := by decide +kernel
theorem dX2_steam_70 : decode cX2_steam 70 = .ok (.lstore 6, 2) := by decide +kernel
theorem dX2_steam_72 : decode cX2_steam 72 = .ok (.lconst 1, 1) := by decide +kernel
theorem dX2_steam_73 : decode cX2_steam 73 = .ok (.lstore 8, 2) := by decide +kernel
theorem dX2_steam_75 : decode cX2_steam 75 = .ok (.iconst 0, 1) := by decide +kernel
theorem dX2_steam_76 : decode cX2_steam 76 = .ok (.istore 10, 2) := by decide +kernel
theorem dX2_steam_78 : decode cX2_steam 78 = .ok (.iload 10, 2) := by decide +kernel
theorem dX2_steam_80 : decode cX2_steam 80 = .ok (.iload_n 3, 1) := by decide +kernel
theorem dX2_steam_81 : decode cX2_steam 81 = .ok (.if_icmp .ge 17, 3) := by decide +kernel
theorem dX2_steam_84 : decode cX2_steam 84 = .ok (.lload 8, 2) := by decide +kernel
theorem dX2_steam_86 : decode cX2_steam 86 = .ok (.iload 4, 2) := by decide +kernel
theorem dX2_steam_88 : decode cX2_steam 88 = .ok (.i2l, 1) := by decide +kernel
theorem dX2_steam_89 : decode cX2_steam 89 = .ok (.lmul, 1) := by decide +kernel
theorem dX2_steam_90 : decode cX2_steam 90 = .ok (.lstore 8, 2) := by decide +kernel
theorem dX2_steam_92 : decode cX2_steam 92 = .ok (.iinc 10 1, 3) := by decide +kernel
theorem dX2_steam_95 : decode cX2_steam 95 = .ok (.goto (-17), 3) := by decide +kernel
theorem dX2_steam_98 : decode cX2_steam 98 = .ok (.iconst 0, 1) := by decide +kernel
theorem dX2_steam_99 : decode cX2_steam 99 = .ok (.istore 10, 2) := by decide +kernel
theorem dX2_steam_101 : decode cX2_steam 101 = .ok (.iload 10, 2) := by decide +kernel
theorem dX2_steam_103 : decode cX2_steam 103 = .ok (.iconst 1, 1) := by decide +kernel
theorem dX2_steam_104 : decode cX2_steam 104 = .ok (.iload_n 3, 1) := by decide +kernel
theorem dX2_steam_105 : decode cX2_steam 105 = .ok (.ishl, 1) := by decide +kernel
theorem dX2_steam_106 : decode cX2_steam 106 = .ok (.if_icmp .ge 115, 3) := by decide +kernel
theorem dX2_steam_109 : decode cX2_steam 109 = .ok (.lconst 1, 1) := by decide +kernel
theorem dX2_steam_110 : decode cX2_steam 110 = .ok (.lstore 11, 2) := by decide +kernel
theorem dX2_steam_112 : decode cX2_steam 112 = .ok (.aload_n 0, 1) := by decide +kernel
theorem dX2_steam_113 : decode cX2_steam 113 = .ok (.getfield 9, 3) := by decide +kernel
theorem dX2_steam_116 : decode cX2_steam 116 = .ok (.aload_n 0, 1) := by decide +kernel
theorem dX2_steam_117 : decode cX2_steam 117 = .ok (.getfield 13, 3) := by decide +kernel
theorem dX2_steam_120 : decode cX2_steam 120 = .ok (.invokestatic 126, 3) := by decide +kernel
theorem dX2_steam_123 : decode cX2_steam 123 = .ok (.iconst 0, 1) := by decide +kernel
theorem dX2_steam_124 : decode cX2_steam 124 = .ok (.istore 13, 2) := by decide +kernel
theorem dX2_steam_126 : decode cX2_steam 126 = .ok (.iload 13, 2) := by decide +kernel
theorem dX2_steam_128 : decode cX2_steam 128 = .ok (.iload_n 3, 1) := by decide +kernel
theorem dX2_steam_129 : decode cX2_steam 129 = .ok (.if_icmp .ge 61, 3) := by decide +kernel
theorem dX2_steam_132 : decode cX2_steam 132 = .ok (.lload 11, 2) := by decide +kernel
theorem dX2_steam_134 : decode cX2_steam 134 = .ok (.iload 10, 2) := by decide +kernel
theorem dX2_steam_136 : decode cX2_steam 136 = .ok (.iload 13, 2) := by decide +kernel
theorem dX2_steam_138 : decode cX2_steam 138 = .ok (.invokestatic 69, 3) := by decide +kernel
theorem dX2_steam_141 : decode cX2_steam 141 = .ok (.ifCond .eq 7, 3) := by decide +kernel
theorem dX2_steam_144 : decode cX2_steam 144 = .ok (.lconst 1, 1) := by decide +kernel
theorem dX2_steam_145 : decode cX2_steam 145 = .ok (.goto 8, 3) := by decide +kernel
theorem dX2_steam_148 : decode cX2_steam 148 = .ok (.iload 4, 2) := by decide +kernel
theorem dX2_steam_150 : decode cX2_steam 150 = .ok (.iconst 1, 1) := by decide +kernel
theorem dX2_steam_151 : decode cX2_steam 151 = .ok (.isub, 1) := by decide +kernel
theorem dX2_steam_152 : decode cX2_steam 152 = .ok (.i2l, 1) := by decide +kernel
theorem dX2_steam_153 : decode cX2_steam 153 = .ok (.lmul, 1) := by decide +kernel
theorem dX2_steam_154 : decode cX2_steam 154 = .ok (.lstore 11, 2) := by decide +kernel
theorem dX2_steam_156 : decode cX2_steam 156 = .ok (.aload_n 0, 1) := by decide +kernel
theorem dX2_steam_157 : decode cX2_steam 157 = .ok (.getfield 13, 3) := by decide +kernel
theorem dX2_steam_160 : decode cX2_steam 160 = .ok (.iconst 2, 1) := by decide +kernel
theorem dX2_steam_161 : decode cX2_steam 161 = .ok (.iload 10, 2) := by decide +kernel
theorem dX2_steam_163 : decode cX2_steam 163 = .ok (.iload 13, 2) := by decide +kernel
theorem dX2_steam_165 : decode cX2_steam 165 = .ok (.invokestatic 69, 3) := by decide +kernel
theorem dX2_steam_168 : decode cX2_steam 168 = .ok (.ifCond .eq 7, 3) := by decide +kernel
theorem dX2_steam_171 : decode cX2_steam 171 = .ok (.iconst (-1), 1) := by decide +kernel
theorem dX2_steam_172 : decode cX2_steam 172 = .ok (.goto 4, 3) := by decide +kernel
theorem dX2_steam_175 : decode cX2_steam 175 = .ok (.iconst 0, 1) := by decide +kernel
theorem dX2_steam_176 : decode cX2_steam 176 = .ok (.iastore, 1) := by decide +kernel
theorem dX2_steam_177 : decode cX2_steam 177 = .ok (.aload_n 0, 1) := by decide +kernel
theorem dX2_steam_178 : decode cX2_steam 178 = .ok (.getfield 13, 3) := by decide +kernel
theorem dX2_steam_181 : decode cX2_steam 181 = .ok (.invokestatic 77, 3) := by decide +kernel
theorem dX2_steam_184 : decode cX2_steam 184 = .ok (.iinc 13 1, 3) := by decide +kernel
theorem dX2_steam_187 : decode cX2_steam 187 = .ok (.goto (-61), 3) := by decide +kernel
theorem dX2_steam_190 : decode cX2_steam 190 = .ok (.lload 6, 2) := by decide +kernel
theorem dX2_steam_192 : decode cX2_steam 192 = .ok (.aload_n 0, 1) := by decide +kernel
theorem dX2_steam_193 : decode cX2_steam 193 = .ok (.getfield 13, 3) := by decide +kernel
theorem dX2_steam_196 : decode cX2_steam 196 = .ok (.iload_n 1, 1) := by decide +kernel
theorem dX2_steam_197 : decode cX2_steam 197 = .ok (.iconst 0, 1) := by decide +kernel
theorem dX2_steam_198 : decode cX2_steam 198 = .ok (.invokestatic 47, 3) := by decide +kernel
theorem dX2_steam_201 : decode cX2_steam 201 = .ok (.iaload, 1) := by decide +kernel
theorem dX2_steam_202 : decode cX2_steam 202 = .ok (.iload_n 2, 1) := by decide +kernel
theorem dX2_steam_203 : decode cX2_steam 203 = .ok (.if_icmp .ne 8, 3) := by decide +kernel
theorem dX2_steam_206 : decode cX2_steam 206 = .ok (.lload 11, 2) := by decide +kernel
theorem dX2_steam_208 : decode cX2_steam 208 = .ok (.goto 4, 3) := by decide +kernel
theorem dX2_steam_211 : decode cX2_steam 211 = .ok (.lconst 0, 1) := by decide +kernel
theorem dX2_steam_212 : decode cX2_steam 212 = .ok (.ladd, 1) := by decide +kernel
theorem dX2_steam_213 : decode cX2_steam 213 = .ok (.lstore 6, 2) := by decide +kernel
theorem dX2_steam_215 : decode cX2_steam 215 = .ok (.iinc 10 1, 3) := by decide +kernel
theorem dX2_steam_218 : decode cX2_steam 218 = .ok (.goto (-117), 3) := by decide +kernel
theorem dX2_steam_221 : decode cX2_steam 221 = .ok (.lload 6, 2) := by decide +kernel
theorem dX2_steam_223 : decode cX2_steam 223 = .ok (.lload 8, 2) := by decide +kernel
theorem dX2_steam_225 : decode cX2_steam 225 = .ok (.iload 5, 2) := by decide +kernel
theorem dX2_steam_227 : decode cX2_steam 227 = .ok (.invokestatic 207, 3) := by decide +kernel
theorem dX2_steam_230 : decode cX2_steam 230 = .ok (.lreturn, 1) := by decide +kernel
set_option maxRecDepth 20000 in
theorem ggX2_mean_X2_isIn : GoodIn wsX2_mean wsX2_isIn := goodIn_r _ [6] (by decide +kernel) (by decide +kernel)
set_option maxRecDepth 20000 in
theorem gX2_mean_X2_isIn : GoodIn wsX2_mean (va_wsS RX2 43 yX2_isIn wsX2_isIn) := goodIn_app (goodIn_of _ (by decide +kernel)) ggX2_mean_X2_isIn
set_option maxRecDepth 20000 in
theorem ggX2_mean_X2_allWet : GoodIn wsX2_mean wsX2_allWet := goodIn_r _ [9, 10, 11, 5, 12] (by decide +kernel) (by decide +kernel)
set_option maxRecDepth 20000 in
theorem gX2_mean_X2_allWet : GoodIn wsX2_mean (va_wsS RX2 143 yX2_allWet wsX2_allWet) := goodIn_app (goodIn_of _ (by decide +kernel)) ggX2_mean_X2_allWet
set_option maxRecDepth 20000 in
theorem ggX2_mean_X2_partOf : GoodIn wsX2_mean wsX2_partOf := goodIn_r _ [15, 16, 17, 5, 18] (by decide +kernel) (by decide +kernel)
set_option maxRecDepth 20000 in
theorem gX2_mean_X2_partOf : GoodIn wsX2_mean (va_wsS RX2 207 yX2_partOf wsX2_partOf) := goodIn_app (goodIn_of _ (by decide +kernel)) ggX2_mean_X2_partOf
set_option maxRecDepth 20000 in
theorem ggX2_mean_X2_noWide : GoodIn wsX2_mean wsX2_noWide := goodIn_r _ [22, 23, 24, 25, 26, 5, 27, 28, 29, 30, 31, 32, 33, 34, 35, 36, 37, 38, 39, 40, 41, 42] (by decide +kernel) (by decide +kernel)
set_option maxRecDepth 20000 in
theorem gX2_mean_X2_noWide : GoodIn wsX2_mean (wsV RX2 203 RX2 yX2_noWide wsX2_noWide) := goodIn_app (goodIn_of _ (by decide +kernel)) ggX2_mean_X2_noWide
theorem dX2_mean_0 : decode cX2_mean 0 = .ok (.iload_n 1, 1) := by decide +kernel
theorem dX2_mean_1 : decode cX2_mean 1 = .ok (.iconst 0, 1) := by decide +kernel
theorem dX2_mean_2 : decode cX2_mean 2 = .ok (.iconst 1, 1) := by decide +kernel
theorem dX2_mean_3 : decode cX2_mean 3 = .ok (.invokestatic 43, 3) := by decide +kernel
theorem dX2_mean_6 : decode cX2_mean 6 = .ok (.ifCond .eq 21, 3) := by decide +kernel
theorem dX2_mean_9 : decode cX2_mean 9 = .ok (.aload_n 0, 1) := by decide +kernel
theorem dX2_mean_10 : decode cX2_mean 10 = .ok (.getfield 9, 3) := by decide +kernel
theorem dX2_mean_13 : decode cX2_mean 13 = .ok (.invokestatic 143, 3) := by decide +kernel
theorem dX2_mean_16 : decode cX2_mean 16 = .ok (.i2l, 1) := by decide +kernel
theorem dX2_mean_17 : decode cX2_mean 17 = .ok (.ldc2_w 211, 3) := by decide +kernel
theorem dX2_mean_20 : decode cX2_mean 20 = .ok (.iload_n 1, 1) := by decide +kernel
theorem dX2_mean_21 : decode cX2_mean 21 = .ok (.invokestatic 207, 3) := by decide +kernel
theorem dX2_mean_24 : decode cX2_mean 24 = .ok (.goto 9, 3) := by decide +kernel
theorem dX2_mean_27 : decode cX2_mean 27 = .ok (.aload_n 0, 1) := by decide +kernel
theorem dX2_mean_28 : decode cX2_mean 28 = .ok (.bipush (-2), 2) := by decide +kernel
theorem dX2_mean_30 : decode cX2_mean 30 = .ok (.invokevirtual 203, 3) := by decide +kernel
theorem dX2_mean_33 : decode cX2_mean 33 = .ok (.lreturn, 1) := by decide +kernel
set_option maxRecDepth 20000 in
theorem ggX2_whatIs_X2_areThere : GoodIn wsX2_whatIs wsX2_areThere := goodIn_r _ [9, 10, 11, 12, 8, 13, 1, 14, 15, 16, 17, 18, 19, 55, 56, 57, 58, 59, 60, 61, 62, 63, 64, 65, 66, 67, 68] (by decide +kernel) (by decide +kernel)
set_option maxRecDepth 20000 in
theorem gX2_whatIs_X2_areThere : GoodIn wsX2_whatIs (wsV RX2 140 RX2 yX2_areThere wsX2_areThere) := goodIn_app (goodIn_of _ (by decide +kernel)) ggX2_whatIs_X2_areThere
set_option maxRecDepth 20000 in
theorem ggX2_whatIs_X2_no : GoodIn wsX2_whatIs wsX2_no := goodIn_r _ [23, 24, 55, 56, 57, 58, 59, 60, 61, 62, 63, 64, 65, 66, 67, 68] (by decide +kernel) (by decide +kernel)
set_option maxRecDepth 20000 in
theorem gX2_whatIs_X2_no : GoodIn wsX2_whatIs (wsV RX2 39 RX2 yX2_no wsX2_no) := goodIn_app (goodIn_of _ (by decide +kernel)) ggX2_whatIs_X2_no
set_option maxRecDepth 20000 in
theorem ggX2_whatIs_X2_isIn : GoodIn wsX2_whatIs wsX2_isIn := goodIn_r _ [16] (by decide +kernel) (by decide +kernel)
set_option maxRecDepth 20000 in
theorem gX2_whatIs_X2_isIn : GoodIn wsX2_whatIs (va_wsS RX2 43 yX2_isIn wsX2_isIn) := goodIn_app (goodIn_of _ (by decide +kernel)) ggX2_whatIs_X2_isIn
set_option maxRecDepth 20000 in
theorem ggX2_whatIs_X2_copies : GoodIn wsX2_whatIs wsX2_copies := goodIn_r _ [27] (by decide +kernel) (by decide +kernel)
set_option maxRecDepth 20000 in
theorem gX2_whatIs_X2_copies : GoodIn wsX2_whatIs (va_wsS RX2 126 yX2_copies wsX2_copies) := goodIn_app (goodIn_of _ (by decide +kernel)) ggX2_whatIs_X2_copies
set_option maxRecDepth 20000 in
theorem ggX2_whatIs_X2_of : GoodIn wsX2_whatIs wsX2_of := goodIn_r _ [30] (by decide +kernel) (by decide +kernel)
set_option maxRecDepth 20000 in
theorem gX2_whatIs_X2_of : GoodIn wsX2_whatIs (va_wsS RX2 47 yX2_of wsX2_of) := goodIn_app (goodIn_of _ (by decide +kernel)) ggX2_whatIs_X2_of
set_option maxRecDepth 20000 in
theorem ggX2_whatIs_X2_step : GoodIn wsX2_whatIs wsX2_step := goodIn_r _ [33, 34, 35, 8, 36, 37, 38, 39, 28, 29, 30, 40, 41, 42, 43, 44, 45, 46, 47, 48, 49, 50, 51, 52, 53, 54] (by decide +kernel) (by decide +kernel)
set_option maxRecDepth 20000 in
theorem gX2_whatIs_X2_step : GoodIn wsX2_whatIs (va_wsS RX2 77 yX2_step wsX2_step) := goodIn_app (goodIn_of _ (by decide +kernel)) ggX2_whatIs_X2_step
theorem dX2_whatIs_0 : decode cX2_whatIs 0 = .ok (.aload_n 0, 1) := by decide +kernel
theorem dX2_whatIs_1 : decode cX2_whatIs 1 = .ok (.iload_n 2, 1) := by decide +kernel
theorem dX2_whatIs_2 : decode cX2_whatIs 2 = .ok (.iload_n 1, 1) := by decide +kernel
theorem dX2_whatIs_3 : decode cX2_whatIs 3 = .ok (.invokevirtual 140, 3) := by decide +kernel
theorem dX2_whatIs_6 : decode cX2_whatIs 6 = .ok (.ifCond .ne 9, 3) := by decide +kernel
theorem dX2_whatIs_9 : decode cX2_whatIs 9 = .ok (.aload_n 0, 1) := by decide +kernel
theorem dX2_whatIs_10 : decode cX2_whatIs 10 = .ok (.iconst (-1), 1) := by decide +kernel
theorem dX2_whatIs_11 : decode cX2_whatIs 11 = .ok (.invokevirtual 39, 3) := by decide +kernel
theorem dX2_whatIs_14 : decode cX2_whatIs 14 = .ok (.ireturn, 1) := by decide +kernel
theorem dX2_whatIs_15 : decode cX2_whatIs 15 = .ok (.iload_n 3, 1) := by decide +kernel
theorem dX2_whatIs_16 : decode cX2_whatIs 16 = .ok (.iconst 0, 1) := by decide +kernel
theorem dX2_whatIs_17 : decode cX2_whatIs 17 = .ok (.iconst 1, 1) := by decide +kernel
theorem dX2_whatIs_18 : decode cX2_whatIs 18 = .ok (.invokestatic 43, 3) := by decide +kernel
theorem dX2_whatIs_21 : decode cX2_whatIs 21 = .ok (.ifCond .ne 10, 3) := by decide +kernel
theorem dX2_whatIs_24 : decode cX2_whatIs 24 = .ok (.aload_n 0, 1) := by decide +kernel
theorem dX2_whatIs_25 : decode cX2_whatIs 25 = .ok (.bipush (-2), 2) := by decide +kernel
theorem dX2_whatIs_27 : decode cX2_whatIs 27 = .ok (.invokevirtual 39, 3) := by decide +kernel
theorem dX2_whatIs_30 : decode cX2_whatIs 30 = .ok (.ireturn, 1) := by decide +kernel
theorem dX2_whatIs_31 : decode cX2_whatIs 31 = .ok (.iconst 0, 1) := by decide +kernel
theorem dX2_whatIs_32 : decode cX2_whatIs 32 = .ok (.istore 4, 2) := by decide +kernel
theorem dX2_whatIs_34 : decode cX2_whatIs 34 = .ok (.iconst 0, 1) := by decide +kernel
theorem dX2_whatIs_35 : decode cX2_whatIs 35 = .ok (.istore 5, 2) := by decide +kernel
theorem dX2_whatIs_37 : decode cX2_whatIs 37 = .ok (.iload 5, 2) := by decide +kernel
theorem dX2_whatIs_39 : decode cX2_whatIs 39 = .ok (.iload_n 3, 1) := by decide +kernel
theorem dX2_whatIs_40 : decode cX2_whatIs 40 = .ok (.ifCond .ne 8, 3) := by decide +kernel
theorem dX2_whatIs_43 : decode cX2_whatIs 43 = .ok (.bipush 6, 2) := by decide +kernel
theorem dX2_whatIs_45 : decode cX2_whatIs 45 = .ok (.goto 5, 3) := by decide +kernel
theorem dX2_whatIs_48 : decode cX2_whatIs 48 = .ok (.bipush 10, 2) := by decide +kernel
theorem dX2_whatIs_50 : decode cX2_whatIs 50 = .ok (.if_icmp .ge 115, 3) := by decide +kernel
theorem dX2_whatIs_53 : decode cX2_whatIs 53 = .ok (.iconst 1, 1) := by decide +kernel
theorem dX2_whatIs_54 : decode cX2_whatIs 54 = .ok (.istore 6, 2) := by decide +kernel
theorem dX2_whatIs_56 : decode cX2_whatIs 56 = .ok (.aload_n 0, 1) := by decide +kernel
theorem dX2_whatIs_57 : decode cX2_whatIs 57 = .ok (.getfield 9, 3) := by decide +kernel
theorem dX2_whatIs_60 : decode cX2_whatIs 60 = .ok (.aload_n 0, 1) := by decide +kernel
theorem dX2_whatIs_61 : decode cX2_whatIs 61 = .ok (.getfield 13, 3) := by decide +kernel
theorem dX2_whatIs_64 : decode cX2_whatIs 64 = .ok (.invokestatic 126, 3) := by decide +kernel
theorem dX2_whatIs_67 : decode cX2_whatIs 67 = .ok (.aload_n 0, 1) := by decide +kernel
theorem dX2_whatIs_68 : decode cX2_whatIs 68 = .ok (.getfield 13, 3) := by decide +kernel
theorem dX2_whatIs_71 : decode cX2_whatIs 71 = .ok (.iload_n 3, 1) := by decide +kernel
theorem dX2_whatIs_72 : decode cX2_whatIs 72 = .ok (.ifCond .ne 7, 3) := by decide +kernel
theorem dX2_whatIs_75 : decode cX2_whatIs 75 = .ok (.iconst 3, 1) := by decide +kernel
theorem dX2_whatIs_76 : decode cX2_whatIs 76 = .ok (.goto 5, 3) := by decide +kernel
theorem dX2_whatIs_79 : decode cX2_whatIs 79 = .ok (.bipush 33, 2) := by decide +kernel
theorem dX2_whatIs_81 : decode cX2_whatIs 81 = .ok (.iload_n 1, 1) := by decide +kernel
theorem dX2_whatIs_82 : decode cX2_whatIs 82 = .ok (.iadd, 1) := by decide +kernel
theorem dX2_whatIs_83 : decode cX2_whatIs 83 = .ok (.iload 5, 2) := by decide +kernel
theorem dX2_whatIs_85 : decode cX2_whatIs 85 = .ok (.iastore, 1) := by decide +kernel
theorem dX2_whatIs_86 : decode cX2_whatIs 86 = .ok (.iconst 0, 1) := by decide +kernel
theorem dX2_whatIs_87 : decode cX2_whatIs 87 = .ok (.istore 7, 2) := by decide +kernel
theorem dX2_whatIs_89 : decode cX2_whatIs 89 = .ok (.iload 7, 2) := by decide +kernel
theorem dX2_whatIs_91 : decode cX2_whatIs 91 = .ok (.aload_n 0, 1) := by decide +kernel
theorem dX2_whatIs_92 : decode cX2_whatIs 92 = .ok (.getfield 213, 3) := by decide +kernel
theorem dX2_whatIs_95 : decode cX2_whatIs 95 = .ok (.if_icmp .ge 46, 3) := by decide +kernel
theorem dX2_whatIs_98 : decode cX2_whatIs 98 = .ok (.iload 6, 2) := by decide +kernel
theorem dX2_whatIs_100 : decode cX2_whatIs 100 = .ok (.aload_n 0, 1) := by decide +kernel
theorem dX2_whatIs_101 : decode cX2_whatIs 101 = .ok (.getfield 13, 3) := by decide +kernel
theorem dX2_whatIs_104 : decode cX2_whatIs 104 = .ok (.iload_n 2, 1) := by decide +kernel
theorem dX2_whatIs_105 : decode cX2_whatIs 105 = .ok (.iconst 0, 1) := by decide +kernel
theorem dX2_whatIs_106 : decode cX2_whatIs 106 = .ok (.invokestatic 47, 3) := by decide +kernel
theorem dX2_whatIs_109 : decode cX2_whatIs 109 = .ok (.iaload, 1) := by decide +kernel
theorem dX2_whatIs_110 : decode cX2_whatIs 110 = .ok (.aload_n 0, 1) := by decide +kernel
theorem dX2_whatIs_111 : decode cX2_whatIs 111 = .ok (.getfield 25, 3) := by decide +kernel
theorem dX2_whatIs_114 : decode cX2_whatIs 114 = .ok (.iload 7, 2) := by decide +kernel
theorem dX2_whatIs_116 : decode cX2_whatIs 116 = .ok (.iaload, 1) := by decide +kernel
theorem dX2_whatIs_117 : decode cX2_whatIs 117 = .ok (.if_icmp .ne 7, 3) := by decide +kernel
theorem dX2_whatIs_120 : decode cX2_whatIs 120 = .ok (.iconst 1, 1) := by decide +kernel
theorem dX2_whatIs_121 : decode cX2_whatIs 121 = .ok (.goto 4, 3) := by decide +kernel
theorem dX2_whatIs_124 : decode cX2_whatIs 124 = .ok (.iconst 0, 1) := by decide +kernel
theorem dX2_whatIs_125 : decode cX2_whatIs 125 = .ok (.iand, 1) := by decide +kernel
theorem dX2_whatIs_126 : decode cX2_whatIs 126 = .ok (.istore 6, 2) := by decide +kernel
theorem dX2_whatIs_128 : decode cX2_whatIs 128 = .ok (.aload_n 0, 1) := by decide +kernel
theorem dX2_whatIs_129 : decode cX2_whatIs 129 = .ok (.getfield 13, 3) := by decide +kernel
theorem dX2_whatIs_132 : decode cX2_whatIs 132 = .ok (.invokestatic 77, 3) := by decide +kernel
theorem dX2_whatIs_135 : decode cX2_whatIs 135 = .ok (.iinc 7 1, 3) := by decide +kernel
theorem dX2_whatIs_138 : decode cX2_whatIs 138 = .ok (.goto (-49), 3) := by decide +kernel
theorem dX2_whatIs_141 : decode cX2_whatIs 141 = .ok (.iload 4, 2) := by decide +kernel
theorem dX2_whatIs_143 : decode cX2_whatIs 143 = .ok (.iload 6, 2) := by decide +kernel
theorem dX2_whatIs_145 : decode cX2_whatIs 145 = .ok (.ifCond .eq 10, 3) := by decide +kernel
theorem dX2_whatIs_148 : decode cX2_whatIs 148 = .ok (.iconst 1, 1) := by decide +kernel
theorem dX2_whatIs_149 : decode cX2_whatIs 149 = .ok (.iload 5, 2) := by decide +kernel
theorem dX2_whatIs_151 : decode cX2_whatIs 151 = .ok (.ishl, 1) := by decide +kernel
theorem dX2_whatIs_152 : decode cX2_whatIs 152 = .ok (.goto 4, 3) := by decide +kernel
theorem dX2_whatIs_155 : decode cX2_whatIs 155 = .ok (.iconst 0, 1) := by decide +kernel
theorem dX2_whatIs_156 : decode cX2_whatIs 156 = .ok (.ior, 1) := by decide +kernel
theorem dX2_whatIs_157 : decode cX2_whatIs 157 = .ok (.istore 4, 2) := by decide +kernel
theorem dX2_whatIs_159 : decode cX2_whatIs 159 = .ok (.iinc 5 1, 3) := by decide +kernel
theorem dX2_whatIs_162 : decode cX2_whatIs 162 = .ok (.goto (-125), 3) := by decide +kernel
theorem dX2_whatIs_165 : decode cX2_whatIs 165 = .ok (.iload 4, 2) := by decide +kernel
theorem dX2_whatIs_167 : decode cX2_whatIs 167 = .ok (.ireturn, 1) := by decide +kernel
set_option maxRecDepth 20000 in
theorem ggX2_row_X2_wrongBy : GoodIn wsX2_row wsX2_wrongBy := goodIn_r _ [6] (by decide +kernel) (by decide +kernel)
set_option maxRecDepth 20000 in
theorem gX2_row_X2_wrongBy : GoodIn wsX2_row (va_wsS RX2 133 yX2_wrongBy wsX2_wrongBy) := goodIn_app (goodIn_of _ (by decide +kernel)) ggX2_row_X2_wrongBy
set_option maxRecDepth 20000 in
theorem ggX2_row_X2_no : GoodIn wsX2_row wsX2_no := goodIn_r _ [10, 11, 12, 13, 14, 15, 16, 17, 18, 19, 20, 21, 22, 23, 24, 25] (by decide +kernel) (by decide +kernel)
set_option maxRecDepth 20000 in
theorem gX2_row_X2_no : GoodIn wsX2_row (wsV RX2 39 RX2 yX2_no wsX2_no) := goodIn_app (goodIn_of _ (by decide +kernel)) ggX2_row_X2_no
theorem dX2_row_0 : decode cX2_row 0 = .ok (.iload_n 1, 1) := by decide +kernel
theorem dX2_row_1 : decode cX2_row 1 = .ok (.iconst 0, 1) := by decide +kernel
theorem dX2_row_2 : decode cX2_row 2 = .ok (.bipush 99, 2) := by decide +kernel
theorem dX2_row_4 : decode cX2_row 4 = .ok (.invokestatic 133, 3) := by decide +kernel
theorem dX2_row_7 : decode cX2_row 7 = .ok (.istore_n 2, 1) := by decide +kernel
theorem dX2_row_8 : decode cX2_row 8 = .ok (.iload_n 2, 1) := by decide +kernel
theorem dX2_row_9 : decode cX2_row 9 = .ok (.ifCond .ne 15, 3) := by decide +kernel
theorem dX2_row_12 : decode cX2_row 12 = .ok (.aload_n 0, 1) := by decide +kernel
theorem dX2_row_13 : decode cX2_row 13 = .ok (.getfield 213, 3) := by decide +kernel
theorem dX2_row_16 : decode cX2_row 16 = .ok (.bipush 16, 2) := by decide +kernel
theorem dX2_row_18 : decode cX2_row 18 = .ok (.if_icmp .ne 6, 3) := by decide +kernel
theorem dX2_row_21 : decode cX2_row 21 = .ok (.bipush (-6), 2) := by decide +kernel
theorem dX2_row_23 : decode cX2_row 23 = .ok (.istore_n 2, 1) := by decide +kernel
theorem dX2_row_24 : decode cX2_row 24 = .ok (.iload_n 2, 1) := by decide +kernel
theorem dX2_row_25 : decode cX2_row 25 = .ok (.ifCond .eq 9, 3) := by decide +kernel
theorem dX2_row_28 : decode cX2_row 28 = .ok (.aload_n 0, 1) := by decide +kernel
theorem dX2_row_29 : decode cX2_row 29 = .ok (.iload_n 2, 1) := by decide +kernel
theorem dX2_row_30 : decode cX2_row 30 = .ok (.invokevirtual 39, 3) := by decide +kernel
theorem dX2_row_33 : decode cX2_row 33 = .ok (.ireturn, 1) := by decide +kernel
theorem dX2_row_34 : decode cX2_row 34 = .ok (.aload_n 0, 1) := by decide +kernel
theorem dX2_row_35 : decode cX2_row 35 = .ok (.getfield 25, 3) := by decide +kernel
theorem dX2_row_38 : decode cX2_row 38 = .ok (.aload_n 0, 1) := by decide +kernel
theorem dX2_row_39 : decode cX2_row 39 = .ok (.getfield 213, 3) := by decide +kernel
theorem dX2_row_42 : decode cX2_row 42 = .ok (.iload_n 1, 1) := by decide +kernel
theorem dX2_row_43 : decode cX2_row 43 = .ok (.iastore, 1) := by decide +kernel
theorem dX2_row_44 : decode cX2_row 44 = .ok (.aload_n 0, 1) := by decide +kernel
theorem dX2_row_45 : decode cX2_row 45 = .ok (.dup, 1) := by decide +kernel
theorem dX2_row_46 : decode cX2_row 46 = .ok (.getfield 213, 3) := by decide +kernel
theorem dX2_row_49 : decode cX2_row 49 = .ok (.iconst 1, 1) := by decide +kernel
theorem dX2_row_50 : decode cX2_row 50 = .ok (.iadd, 1) := by decide +kernel
theorem dX2_row_51 : decode cX2_row 51 = .ok (.putfield 213, 3) := by decide +kernel
theorem dX2_row_54 : decode cX2_row 54 = .ok (.aload_n 0, 1) := by decide +kernel
theorem dX2_row_55 : decode cX2_row 55 = .ok (.getfield 213, 3) := by decide +kernel
theorem dX2_row_58 : decode cX2_row 58 = .ok (.ireturn, 1) := by decide +kernel
theorem dX2_judge_0 : decode cX2_judge 0 = .ok (.aload_n 0, 1) := by decide +kernel
theorem dX2_judge_1 : decode cX2_judge 1 = .ok (.getfield 213, 3) := by decide +kernel
theorem dX2_judge_4 : decode cX2_judge 4 = .ok (.istore_n 1, 1) := by decide +kernel
theorem dX2_judge_5 : decode cX2_judge 5 = .ok (.aload_n 0, 1) := by decide +kernel
theorem dX2_judge_6 : decode cX2_judge 6 = .ok (.iconst 0, 1) := by decide +kernel
theorem dX2_judge_7 : decode cX2_judge 7 = .ok (.putfield 213, 3) := by decide +kernel
theorem dX2_judge_10 : decode cX2_judge 10 = .ok (.iconst 0, 1) := by decide +kernel
theorem dX2_judge_11 : decode cX2_judge 11 = .ok (.istore_n 2, 1) := by decide +kernel
theorem dX2_judge_12 : decode cX2_judge 12 = .ok (.iload_n 2, 1) := by decide +kernel
theorem dX2_judge_13 : decode cX2_judge 13 = .ok (.iload_n 1, 1) := by decide +kernel
theorem dX2_judge_14 : decode cX2_judge 14 = .ok (.if_icmp .ge 29, 3) := by decide +kernel
theorem dX2_judge_17 : decode cX2_judge 17 = .ok (.aload_n 0, 1) := by decide +kernel
theorem dX2_judge_18 : decode cX2_judge 18 = .ok (.getfield 9, 3) := by decide +kernel
theorem dX2_judge_21 : decode cX2_judge 21 = .ok (.bipush 63, 2) := by decide +kernel
theorem dX2_judge_23 : decode cX2_judge 23 = .ok (.iload_n 2, 1) := by decide +kernel
theorem dX2_judge_24 : decode cX2_judge 24 = .ok (.iadd, 1) := by decide +kernel
theorem dX2_judge_25 : decode cX2_judge 25 = .ok (.iaload, 1) := by decide +kernel
theorem dX2_judge_26 : decode cX2_judge 26 = .ok (.aload_n 0, 1) := by decide +kernel
theorem dX2_judge_27 : decode cX2_judge 27 = .ok (.getfield 25, 3) := by decide +kernel
theorem dX2_judge_30 : decode cX2_judge 30 = .ok (.iload_n 2, 1) := by decide +kernel
theorem dX2_judge_31 : decode cX2_judge 31 = .ok (.iaload, 1) := by decide +kernel
theorem dX2_judge_32 : decode cX2_judge 32 = .ok (.if_icmp .eq 5, 3) := by decide +kernel
theorem dX2_judge_35 : decode cX2_judge 35 = .ok (.iload_n 2, 1) := by decide +kernel
theorem dX2_judge_36 : decode cX2_judge 36 = .ok (.ireturn, 1) := by decide +kernel
theorem dX2_judge_37 : decode cX2_judge 37 = .ok (.iinc 2 1, 3) := by decide +kernel
theorem dX2_judge_40 : decode cX2_judge 40 = .ok (.goto (-28), 3) := by decide +kernel
theorem dX2_judge_43 : decode cX2_judge 43 = .ok (.bipush (-9), 2) := by decide +kernel
theorem dX2_judge_45 : decode cX2_judge 45 = .ok (.ireturn, 1) := by decide +kernel
theorem dX2_clear_0 : decode cX2_clear 0 = .ok (.aload_n 0, 1) := by decide +kernel
theorem dX2_clear_1 : decode cX2_clear 1 = .ok (.getfield 213, 3) := by decide +kernel
theorem dX2_clear_4 : decode cX2_clear 4 = .ok (.istore_n 1, 1) := by decide +kernel
theorem dX2_clear_5 : decode cX2_clear 5 = .ok (.aload_n 0, 1) := by decide +kernel
theorem dX2_clear_6 : decode cX2_clear 6 = .ok (.iconst 0, 1) := by decide +kernel
theorem dX2_clear_7 : decode cX2_clear 7 = .ok (.putfield 213, 3) := by decide +kernel
theorem dX2_clear_10 : decode cX2_clear 10 = .ok (.iload_n 1, 1) := by decide +kernel
theorem dX2_clear_11 : decode cX2_clear 11 = .ok (.ireturn, 1) := by decide +kernel
theorem dX2_drawn_0 : decode cX2_drawn 0 = .ok (.aload_n 0, 1) := by decide +kernel
theorem dX2_drawn_1 : decode cX2_drawn 1 = .ok (.aload_n 0, 1) := by decide +kernel
theorem dX2_drawn_2 : decode cX2_drawn 2 = .ok (.getfield 216, 3) := by decide +kernel
theorem dX2_drawn_5 : decode cX2_drawn 5 = .ok (.ldc 219, 2) := by decide +kernel
theorem dX2_drawn_7 : decode cX2_drawn 7 = .ok (.imul, 1) := by decide +kernel
theorem dX2_drawn_8 : decode cX2_drawn 8 = .ok (.ldc 220, 2) := by decide +kernel
theorem dX2_drawn_10 : decode cX2_drawn 10 = .ok (.iadd, 1) := by decide +kernel
theorem dX2_drawn_11 : decode cX2_drawn 11 = .ok (.putfield 216, 3) := by decide +kernel
theorem dX2_drawn_14 : decode cX2_drawn 14 = .ok (.aload_n 0, 1) := by decide +kernel
theorem dX2_drawn_15 : decode cX2_drawn 15 = .ok (.getfield 216, 3) := by decide +kernel
theorem dX2_drawn_18 : decode cX2_drawn 18 = .ok (.ldc 221, 2) := by decide +kernel
theorem dX2_drawn_20 : decode cX2_drawn 20 = .ok (.iand, 1) := by decide +kernel
theorem dX2_drawn_21 : decode cX2_drawn 21 = .ok (.sipush 256, 3) := by decide +kernel
theorem dX2_drawn_24 : decode cX2_drawn 24 = .ok (.idiv, 1) := by decide +kernel
theorem dX2_drawn_25 : decode cX2_drawn 25 = .ok (.iload_n 1, 1) := by decide +kernel
theorem dX2_drawn_26 : decode cX2_drawn 26 = .ok (.irem, 1) := by decide +kernel
theorem dX2_drawn_27 : decode cX2_drawn 27 = .ok (.ireturn, 1) := by decide +kernel
set_option maxRecDepth 20000 in
theorem ggX2_lots_X2_no : GoodIn wsX2_lots wsX2_no := goodIn_r _ [8, 9, 59, 60, 61, 62, 63, 64, 65, 66, 67, 68, 69, 70, 71, 72] (by decide +kernel) (by decide +kernel)
set_option maxRecDepth 20000 in
theorem gX2_lots_X2_no : GoodIn wsX2_lots (wsV RX2 39 RX2 yX2_no wsX2_no) := goodIn_app (goodIn_of _ (by decide +kernel)) ggX2_lots_X2_no
set_option maxRecDepth 20000 in
theorem ggX2_lots_X2_isIn : GoodIn wsX2_lots wsX2_isIn := goodIn_r _ [12] (by decide +kernel) (by decide +kernel)
set_option maxRecDepth 20000 in
theorem gX2_lots_X2_isIn : GoodIn wsX2_lots (va_wsS RX2 43 yX2_isIn wsX2_isIn) := goodIn_app (goodIn_of _ (by decide +kernel)) ggX2_lots_X2_isIn
set_option maxRecDepth 20000 in
theorem ggX2_lots_X2_copies : GoodIn wsX2_lots wsX2_copies := goodIn_r _ [15] (by decide +kernel) (by decide +kernel)
set_option maxRecDepth 20000 in
theorem gX2_lots_X2_copies : GoodIn wsX2_lots (va_wsS RX2 126 yX2_copies wsX2_copies) := goodIn_app (goodIn_of _ (by decide +kernel)) ggX2_lots_X2_copies
set_option maxRecDepth 20000 in
theorem ggX2_lots_X2_of : GoodIn wsX2_lots wsX2_of := goodIn_r _ [18] (by decide +kernel) (by decide +kernel)
set_option maxRecDepth 20000 in
theorem gX2_lots_X2_of : GoodIn wsX2_lots (va_wsS RX2 47 yX2_of wsX2_of) := goodIn_app (goodIn_of _ (by decide +kernel)) ggX2_lots_X2_of
set_option maxRecDepth 20000 in
theorem ggX2_lots_X2_drawn : GoodIn wsX2_lots wsX2_drawn := goodIn_r _ [22, 1, 23, 24, 25, 59, 60, 61, 62, 63, 64, 65, 66, 67, 68, 69, 70, 71, 72] (by decide +kernel) (by decide +kernel)
set_option maxRecDepth 20000 in
theorem gX2_lots_X2_drawn : GoodIn wsX2_lots (wsV RX2 222 RX2 yX2_drawn wsX2_drawn) := goodIn_app (goodIn_of _ (by decide +kernel)) ggX2_lots_X2_drawn
set_option maxRecDepth 20000 in
theorem ggX2_lots_X2_stepsOn : GoodIn wsX2_lots wsX2_stepsOn := goodIn_r _ [28, 29, 30, 7, 31, 32, 33, 34, 35, 36, 37, 16, 17, 18, 38, 39, 40, 41, 42, 43, 44, 45, 46, 47, 48, 49, 50, 51, 52] (by decide +kernel) (by decide +kernel)
set_option maxRecDepth 20000 in
theorem gX2_lots_X2_stepsOn : GoodIn wsX2_lots (va_wsS RX2 120 yX2_stepsOn wsX2_stepsOn) := goodIn_app (goodIn_of _ (by decide +kernel)) ggX2_lots_X2_stepsOn
set_option maxRecDepth 20000 in
theorem ggX2_lots_X2_allHelped : GoodIn wsX2_lots wsX2_allHelped := goodIn_r _ [55, 16, 17, 7, 18, 56, 57, 58] (by decide +kernel) (by decide +kernel)
set_option maxRecDepth 20000 in
theorem gX2_lots_X2_allHelped : GoodIn wsX2_lots (va_wsS RX2 225 yX2_allHelped wsX2_allHelped) := goodIn_app (goodIn_of _ (by decide +kernel)) ggX2_lots_X2_allHelped
set_option maxRecDepth 20000 in
theorem ggX2_lots_X2_isDry : GoodIn wsX2_lots wsX2_isDry := goodIn_r _ [40] (by decide +kernel) (by decide +kernel)
set_option maxRecDepth 20000 in
theorem gX2_lots_X2_isDry : GoodIn wsX2_lots (va_wsS RX2 55 yX2_isDry wsX2_isDry) := goodIn_app (goodIn_of _ (by decide +kernel)) ggX2_lots_X2_isDry
theorem dX2_lots_0 : decode cX2_lots 0 = .ok (.iload_n 1, 1) := by decide +kernel
theorem dX2_lots_1 : decode cX2_lots 1 = .ok (.iconst 1, 1) := by decide +kernel
theorem dX2_lots_2 : decode cX2_lots 2 = .ok (.if_icmp .ge 10, 3) := by decide +kernel
theorem dX2_lots_5 : decode cX2_lots 5 = .ok (.aload_n 0, 1) := by decide +kernel
theorem dX2_lots_6 : decode cX2_lots 6 = .ok (.bipush (-4), 2) := by decide +kernel
theorem dX2_lots_8 : decode cX2_lots 8 = .ok (.invokevirtual 39, 3) := by decide +kernel
theorem dX2_lots_11 : decode cX2_lots 11 = .ok (.ireturn, 1) := by decide +kernel
theorem dX2_lots_12 : decode cX2_lots 12 = .ok (.iload_n 1, 1) := by decide +kernel
theorem dX2_lots_13 : decode cX2_lots 13 = .ok (.bipush 20, 2) := by decide +kernel
theorem dX2_lots_15 : decode cX2_lots 15 = .ok (.if_icmp .le 10, 3) := by decide +kernel
theorem dX2_lots_18 : decode cX2_lots 18 = .ok (.aload_n 0, 1) := by decide +kernel
theorem dX2_lots_19 : decode cX2_lots 19 = .ok (.bipush (-6), 2) := by decide +kernel
theorem dX2_lots_21 : decode cX2_lots 21 = .ok (.invokevirtual 39, 3) := by decide +kernel
theorem dX2_lots_24 : decode cX2_lots 24 = .ok (.ireturn, 1) := by decide +kernel
theorem dX2_lots_25 : decode cX2_lots 25 = .ok (.iload_n 3, 1) := by decide +kernel
theorem dX2_lots_26 : decode cX2_lots 26 = .ok (.iconst 0, 1) := by decide +kernel
theorem dX2_lots_27 : decode cX2_lots 27 = .ok (.iconst 1, 1) := by decide +kernel
theorem dX2_lots_28 : decode cX2_lots 28 = .ok (.invokestatic 43, 3) := by decide +kernel
theorem dX2_lots_31 : decode cX2_lots 31 = .ok (.ifCond .ne 10, 3) := by decide +kernel
theorem dX2_lots_34 : decode cX2_lots 34 = .ok (.aload_n 0, 1) := by decide +kernel
theorem dX2_lots_35 : decode cX2_lots 35 = .ok (.bipush (-2), 2) := by decide +kernel
theorem dX2_lots_37 : decode cX2_lots 37 = .ok (.invokevirtual 39, 3) := by decide +kernel
theorem dX2_lots_40 : decode cX2_lots 40 = .ok (.ireturn, 1) := by decide +kernel
theorem dX2_lots_41 : decode cX2_lots 41 = .ok (.aload_n 0, 1) := by decide +kernel
theorem dX2_lots_42 : decode cX2_lots 42 = .ok (.iload_n 2, 1) := by decide +kernel
theorem dX2_lots_43 : decode cX2_lots 43 = .ok (.putfield 216, 3) := by decide +kernel
theorem dX2_lots_46 : decode cX2_lots 46 = .ok (.iconst 0, 1) := by decide +kernel
theorem dX2_lots_47 : decode cX2_lots 47 = .ok (.istore 4, 2) := by decide +kernel
theorem dX2_lots_49 : decode cX2_lots 49 = .ok (.iconst 0, 1) := by decide +kernel
theorem dX2_lots_50 : decode cX2_lots 50 = .ok (.istore 5, 2) := by decide +kernel
theorem dX2_lots_52 : decode cX2_lots 52 = .ok (.iload 5, 2) := by decide +kernel
theorem dX2_lots_54 : decode cX2_lots 54 = .ok (.iload_n 1, 1) := by decide +kernel
theorem dX2_lots_55 : decode cX2_lots 55 = .ok (.if_icmp .ge 166, 3) := by decide +kernel
theorem dX2_lots_58 : decode cX2_lots 58 = .ok (.aload_n 0, 1) := by decide +kernel
theorem dX2_lots_59 : decode cX2_lots 59 = .ok (.getfield 9, 3) := by decide +kernel
theorem dX2_lots_62 : decode cX2_lots 62 = .ok (.aload_n 0, 1) := by decide +kernel
theorem dX2_lots_63 : decode cX2_lots 63 = .ok (.getfield 13, 3) := by decide +kernel
theorem dX2_lots_66 : decode cX2_lots 66 = .ok (.invokestatic 126, 3) := by decide +kernel
theorem dX2_lots_69 : decode cX2_lots 69 = .ok (.iconst 0, 1) := by decide +kernel
theorem dX2_lots_70 : decode cX2_lots 70 = .ok (.istore 6, 2) := by decide +kernel
theorem dX2_lots_72 : decode cX2_lots 72 = .ok (.iload 6, 2) := by decide +kernel
theorem dX2_lots_74 : decode cX2_lots 74 = .ok (.aload_n 0, 1) := by decide +kernel
theorem dX2_lots_75 : decode cX2_lots 75 = .ok (.getfield 9, 3) := by decide +kernel
theorem dX2_lots_78 : decode cX2_lots 78 = .ok (.iconst 0, 1) := by decide +kernel
theorem dX2_lots_79 : decode cX2_lots 79 = .ok (.iaload, 1) := by decide +kernel
theorem dX2_lots_80 : decode cX2_lots 80 = .ok (.if_icmp .ge 42, 3) := by decide +kernel
theorem dX2_lots_83 : decode cX2_lots 83 = .ok (.aload_n 0, 1) := by decide +kernel
theorem dX2_lots_84 : decode cX2_lots 84 = .ok (.getfield 13, 3) := by decide +kernel
theorem dX2_lots_87 : decode cX2_lots 87 = .ok (.iload 6, 2) := by decide +kernel
theorem dX2_lots_89 : decode cX2_lots 89 = .ok (.iconst 0, 1) := by decide +kernel
theorem dX2_lots_90 : decode cX2_lots 90 = .ok (.invokestatic 47, 3) := by decide +kernel
theorem dX2_lots_93 : decode cX2_lots 93 = .ok (.aload_n 0, 1) := by decide +kernel
theorem dX2_lots_94 : decode cX2_lots 94 = .ok (.bipush 30, 2) := by decide +kernel
theorem dX2_lots_96 : decode cX2_lots 96 = .ok (.invokevirtual 222, 3) := by decide +kernel
theorem dX2_lots_99 : decode cX2_lots 99 = .ok (.iastore, 1) := by decide +kernel
theorem dX2_lots_100 : decode cX2_lots 100 = .ok (.aload_n 0, 1) := by decide +kernel
theorem dX2_lots_101 : decode cX2_lots 101 = .ok (.getfield 13, 3) := by decide +kernel
theorem dX2_lots_104 : decode cX2_lots 104 = .ok (.iload 6, 2) := by decide +kernel
theorem dX2_lots_106 : decode cX2_lots 106 = .ok (.iconst 1, 1) := by decide +kernel
theorem dX2_lots_107 : decode cX2_lots 107 = .ok (.invokestatic 47, 3) := by decide +kernel
theorem dX2_lots_110 : decode cX2_lots 110 = .ok (.aload_n 0, 1) := by decide +kernel
theorem dX2_lots_111 : decode cX2_lots 111 = .ok (.iconst 4, 1) := by decide +kernel
theorem dX2_lots_112 : decode cX2_lots 112 = .ok (.invokevirtual 222, 3) := by decide +kernel
theorem dX2_lots_115 : decode cX2_lots 115 = .ok (.iastore, 1) := by decide +kernel
theorem dX2_lots_116 : decode cX2_lots 116 = .ok (.iinc 6 1, 3) := by decide +kernel
theorem dX2_lots_119 : decode cX2_lots 119 = .ok (.goto (-47), 3) := by decide +kernel
theorem dX2_lots_122 : decode cX2_lots 122 = .ok (.aload_n 0, 1) := by decide +kernel
theorem dX2_lots_123 : decode cX2_lots 123 = .ok (.getfield 13, 3) := by decide +kernel
theorem dX2_lots_126 : decode cX2_lots 126 = .ok (.bipush 12, 2) := by decide +kernel
theorem dX2_lots_128 : decode cX2_lots 128 = .ok (.invokestatic 120, 3) := by decide +kernel
theorem dX2_lots_131 : decode cX2_lots 131 = .ok (.iload 4, 2) := by decide +kernel
theorem dX2_lots_133 : decode cX2_lots 133 = .ok (.iload_n 3, 1) := by decide +kernel
theorem dX2_lots_134 : decode cX2_lots 134 = .ok (.ifCond .ne 21, 3) := by decide +kernel
theorem dX2_lots_137 : decode cX2_lots 137 = .ok (.aload_n 0, 1) := by decide +kernel
theorem dX2_lots_138 : decode cX2_lots 138 = .ok (.getfield 13, 3) := by decide +kernel
theorem dX2_lots_141 : decode cX2_lots 141 = .ok (.invokestatic 225, 3) := by decide +kernel
theorem dX2_lots_144 : decode cX2_lots 144 = .ok (.aload_n 0, 1) := by decide +kernel
theorem dX2_lots_145 : decode cX2_lots 145 = .ok (.getfield 9, 3) := by decide +kernel
theorem dX2_lots_148 : decode cX2_lots 148 = .ok (.invokestatic 225, 3) := by decide +kernel
theorem dX2_lots_151 : decode cX2_lots 151 = .ok (.isub, 1) := by decide +kernel
theorem dX2_lots_152 : decode cX2_lots 152 = .ok (.goto 4, 3) := by decide +kernel
theorem dX2_lots_155 : decode cX2_lots 155 = .ok (.iconst 0, 1) := by decide +kernel
theorem dX2_lots_156 : decode cX2_lots 156 = .ok (.iadd, 1) := by decide +kernel
theorem dX2_lots_157 : decode cX2_lots 157 = .ok (.istore 4, 2) := by decide +kernel
theorem dX2_lots_159 : decode cX2_lots 159 = .ok (.iconst 0, 1) := by decide +kernel
theorem dX2_lots_160 : decode cX2_lots 160 = .ok (.istore 6, 2) := by decide +kernel
theorem dX2_lots_162 : decode cX2_lots 162 = .ok (.iload 6, 2) := by decide +kernel
theorem dX2_lots_164 : decode cX2_lots 164 = .ok (.aload_n 0, 1) := by decide +kernel
theorem dX2_lots_165 : decode cX2_lots 165 = .ok (.getfield 9, 3) := by decide +kernel
theorem dX2_lots_168 : decode cX2_lots 168 = .ok (.iconst 0, 1) := by decide +kernel
theorem dX2_lots_169 : decode cX2_lots 169 = .ok (.iaload, 1) := by decide +kernel
theorem dX2_lots_170 : decode cX2_lots 170 = .ok (.if_icmp .ge 45, 3) := by decide +kernel
theorem dX2_lots_173 : decode cX2_lots 173 = .ok (.iload_n 3, 1) := by decide +kernel
theorem dX2_lots_174 : decode cX2_lots 174 = .ok (.iconst 1, 1) := by decide +kernel
theorem dX2_lots_175 : decode cX2_lots 175 = .ok (.if_icmp .ne 40, 3) := by decide +kernel
theorem dX2_lots_178 : decode cX2_lots 178 = .ok (.iload 4, 2) := by decide +kernel
theorem dX2_lots_180 : decode cX2_lots 180 = .ok (.aload_n 0, 1) := by decide +kernel
theorem dX2_lots_181 : decode cX2_lots 181 = .ok (.getfield 13, 3) := by decide +kernel
theorem dX2_lots_184 : decode cX2_lots 184 = .ok (.aload_n 0, 1) := by decide +kernel
theorem dX2_lots_185 : decode cX2_lots 185 = .ok (.getfield 13, 3) := by decide +kernel
theorem dX2_lots_188 : decode cX2_lots 188 = .ok (.iload 6, 2) := by decide +kernel
theorem dX2_lots_190 : decode cX2_lots 190 = .ok (.iconst 0, 1) := by decide +kernel
theorem dX2_lots_191 : decode cX2_lots 191 = .ok (.invokestatic 47, 3) := by decide +kernel
theorem dX2_lots_194 : decode cX2_lots 194 = .ok (.iaload, 1) := by decide +kernel
theorem dX2_lots_195 : decode cX2_lots 195 = .ok (.invokestatic 55, 3) := by decide +kernel
theorem dX2_lots_198 : decode cX2_lots 198 = .ok (.ifCond .eq 7, 3) := by decide +kernel
theorem dX2_lots_201 : decode cX2_lots 201 = .ok (.iconst 1, 1) := by decide +kernel
theorem dX2_lots_202 : decode cX2_lots 202 = .ok (.goto 4, 3) := by decide +kernel
theorem dX2_lots_205 : decode cX2_lots 205 = .ok (.iconst 0, 1) := by decide +kernel
theorem dX2_lots_206 : decode cX2_lots 206 = .ok (.iadd, 1) := by decide +kernel
theorem dX2_lots_207 : decode cX2_lots 207 = .ok (.istore 4, 2) := by decide +kernel
theorem dX2_lots_209 : decode cX2_lots 209 = .ok (.iinc 6 1, 3) := by decide +kernel
theorem dX2_lots_212 : decode cX2_lots 212 = .ok (.goto (-50), 3) := by decide +kernel
theorem dX2_lots_215 : decode cX2_lots 215 = .ok (.iinc 5 1, 3) := by decide +kernel
theorem dX2_lots_218 : decode cX2_lots 218 = .ok (.goto (-166), 3) := by decide +kernel
theorem dX2_lots_221 : decode cX2_lots 221 = .ok (.iload 4, 2) := by decide +kernel
theorem dX2_lots_223 : decode cX2_lots 223 = .ok (.ireturn, 1) := by decide +kernel
set_option maxRecDepth 20000 in
theorem ggX2_image_X2_copies : GoodIn wsX2_image wsX2_copies := goodIn_r _ [7] (by decide +kernel) (by decide +kernel)
set_option maxRecDepth 20000 in
theorem gX2_image_X2_copies : GoodIn wsX2_image (va_wsS RX2 126 yX2_copies wsX2_copies) := goodIn_app (goodIn_of _ (by decide +kernel)) ggX2_image_X2_copies
theorem dX2_image_0 : decode cX2_image 0 = .ok (.aload_n 0, 1) := by decide +kernel
theorem dX2_image_1 : decode cX2_image 1 = .ok (.getfield 9, 3) := by decide +kernel
theorem dX2_image_4 : decode cX2_image 4 = .ok (.aload_n 0, 1) := by decide +kernel
theorem dX2_image_5 : decode cX2_image 5 = .ok (.getfield 16, 3) := by decide +kernel
theorem dX2_image_8 : decode cX2_image 8 = .ok (.invokestatic 126, 3) := by decide +kernel
theorem dX2_image_11 : decode cX2_image 11 = .ok (.aload_n 0, 1) := by decide +kernel
theorem dX2_image_12 : decode cX2_image 12 = .ok (.iconst 1, 1) := by decide +kernel
theorem dX2_image_13 : decode cX2_image 13 = .ok (.putfield 228, 3) := by decide +kernel
theorem dX2_image_16 : decode cX2_image 16 = .ok (.aload_n 0, 1) := by decide +kernel
theorem dX2_image_17 : decode cX2_image 17 = .ok (.getfield 9, 3) := by decide +kernel
theorem dX2_image_20 : decode cX2_image 20 = .ok (.iconst 1, 1) := by decide +kernel
theorem dX2_image_21 : decode cX2_image 21 = .ok (.iaload, 1) := by decide +kernel
theorem dX2_image_22 : decode cX2_image 22 = .ok (.ireturn, 1) := by decide +kernel
set_option maxRecDepth 20000 in
theorem ggX2_on_X2_no : GoodIn wsX2_on wsX2_no := goodIn_r _ [8, 9, 13, 14, 15, 16, 17, 18, 19, 20, 21, 22, 23, 24, 25, 26] (by decide +kernel) (by decide +kernel)
set_option maxRecDepth 20000 in
theorem gX2_on_X2_no : GoodIn wsX2_on (wsV RX2 39 RX2 yX2_no wsX2_no) := goodIn_app (goodIn_of _ (by decide +kernel)) ggX2_on_X2_no
set_option maxRecDepth 20000 in
theorem ggX2_on_X2_copies : GoodIn wsX2_on wsX2_copies := goodIn_r _ [12] (by decide +kernel) (by decide +kernel)
set_option maxRecDepth 20000 in
theorem gX2_on_X2_copies : GoodIn wsX2_on (va_wsS RX2 126 yX2_copies wsX2_copies) := goodIn_app (goodIn_of _ (by decide +kernel)) ggX2_on_X2_copies
theorem dX2_on_0 : decode cX2_on 0 = .ok (.aload_n 0, 1) := by decide +kernel
theorem dX2_on_1 : decode cX2_on 1 = .ok (.getfield 228, 3) := by decide +kernel
theorem dX2_on_4 : decode cX2_on 4 = .ok (.ifCond .ne 10, 3) := by decide +kernel
theorem dX2_on_7 : decode cX2_on 7 = .ok (.aload_n 0, 1) := by decide +kernel
theorem dX2_on_8 : decode cX2_on 8 = .ok (.bipush (-3), 2) := by decide +kernel
theorem dX2_on_10 : decode cX2_on 10 = .ok (.invokevirtual 39, 3) := by decide +kernel
theorem dX2_on_13 : decode cX2_on 13 = .ok (.ireturn, 1) := by decide +kernel
theorem dX2_on_14 : decode cX2_on 14 = .ok (.aload_n 0, 1) := by decide +kernel
theorem dX2_on_15 : decode cX2_on 15 = .ok (.getfield 16, 3) := by decide +kernel
theorem dX2_on_18 : decode cX2_on 18 = .ok (.aload_n 0, 1) := by decide +kernel
theorem dX2_on_19 : decode cX2_on 19 = .ok (.getfield 9, 3) := by decide +kernel
theorem dX2_on_22 : decode cX2_on 22 = .ok (.invokestatic 126, 3) := by decide +kernel
theorem dX2_on_25 : decode cX2_on 25 = .ok (.aload_n 0, 1) := by decide +kernel
theorem dX2_on_26 : decode cX2_on 26 = .ok (.getfield 9, 3) := by decide +kernel
theorem dX2_on_29 : decode cX2_on 29 = .ok (.iconst 1, 1) := by decide +kernel
theorem dX2_on_30 : decode cX2_on 30 = .ok (.iaload, 1) := by decide +kernel
theorem dX2_on_31 : decode cX2_on 31 = .ok (.ireturn, 1) := by decide +kernel
set_option maxRecDepth 20000 in
theorem ggX2_count_X2_isIn : GoodIn wsX2_count wsX2_isIn := goodIn_r _ [8] (by decide +kernel) (by decide +kernel)
set_option maxRecDepth 20000 in
theorem gX2_count_X2_isIn : GoodIn wsX2_count (va_wsS RX2 43 yX2_isIn wsX2_isIn) := goodIn_app (goodIn_of _ (by decide +kernel)) ggX2_count_X2_isIn
set_option maxRecDepth 20000 in
theorem ggX2_count_X2_allWet : GoodIn wsX2_count wsX2_allWet := goodIn_r _ [11, 12, 13, 7, 14] (by decide +kernel) (by decide +kernel)
set_option maxRecDepth 20000 in
theorem gX2_count_X2_allWet : GoodIn wsX2_count (va_wsS RX2 143 yX2_allWet wsX2_allWet) := goodIn_app (goodIn_of _ (by decide +kernel)) ggX2_count_X2_allWet
set_option maxRecDepth 20000 in
theorem ggX2_count_X2_allHelped : GoodIn wsX2_count wsX2_allHelped := goodIn_r _ [17, 18, 19, 7, 20, 12, 13, 14] (by decide +kernel) (by decide +kernel)
set_option maxRecDepth 20000 in
theorem gX2_count_X2_allHelped : GoodIn wsX2_count (va_wsS RX2 225 yX2_allHelped wsX2_allHelped) := goodIn_app (goodIn_of _ (by decide +kernel)) ggX2_count_X2_allHelped
set_option maxRecDepth 20000 in
theorem ggX2_count_X2_dryOnes : GoodIn wsX2_count wsX2_dryOnes := goodIn_r _ [24, 2, 25, 26, 7, 27, 28, 29, 30, 31, 32, 33, 34, 35, 36, 37, 38, 39, 40, 41] (by decide +kernel) (by decide +kernel)
set_option maxRecDepth 20000 in
theorem gX2_count_X2_dryOnes : GoodIn wsX2_count (wsV RX2 171 RX2 yX2_dryOnes wsX2_dryOnes) := goodIn_app (goodIn_of _ (by decide +kernel)) ggX2_count_X2_dryOnes
set_option maxRecDepth 20000 in
theorem ggX2_count_X2_sumOf : GoodIn wsX2_count wsX2_sumOf := goodIn_r _ [14] (by decide +kernel) (by decide +kernel)
set_option maxRecDepth 20000 in
theorem gX2_count_X2_sumOf : GoodIn wsX2_count (va_wsS RX2 81 yX2_sumOf wsX2_sumOf) := goodIn_app (goodIn_of _ (by decide +kernel)) ggX2_count_X2_sumOf
theorem dX2_count_0 : decode cX2_count 0 = .ok (.iload_n 1, 1) := by decide +kernel
theorem dX2_count_1 : decode cX2_count 1 = .ok (.bipush 11, 2) := by decide +kernel
theorem dX2_count_3 : decode cX2_count 3 = .ok (.bipush 16, 2) := by decide +kernel
theorem dX2_count_5 : decode cX2_count 5 = .ok (.invokestatic 43, 3) := by decide +kernel
theorem dX2_count_8 : decode cX2_count 8 = .ok (.ifCond .eq 13, 3) := by decide +kernel
theorem dX2_count_11 : decode cX2_count 11 = .ok (.aload_n 0, 1) := by decide +kernel
theorem dX2_count_12 : decode cX2_count 12 = .ok (.getfield 28, 3) := by decide +kernel
theorem dX2_count_15 : decode cX2_count 15 = .ok (.iload_n 1, 1) := by decide +kernel
theorem dX2_count_16 : decode cX2_count 16 = .ok (.bipush 10, 2) := by decide +kernel
theorem dX2_count_18 : decode cX2_count 18 = .ok (.isub, 1) := by decide +kernel
theorem dX2_count_19 : decode cX2_count 19 = .ok (.iaload, 1) := by decide +kernel
theorem dX2_count_20 : decode cX2_count 20 = .ok (.ireturn, 1) := by decide +kernel
theorem dX2_count_21 : decode cX2_count 21 = .ok (.iload_n 1, 1) := by decide +kernel
theorem dX2_count_22 : decode cX2_count 22 = .ok (.tableswitch 97 0 7 #[46, 46, 53, 61, 69, 74, 87, 92], 46) := by decide +kernel
theorem dX2_count_68 : decode cX2_count 68 = .ok (.aload_n 0, 1) := by decide +kernel
theorem dX2_count_69 : decode cX2_count 69 = .ok (.getfield 9, 3) := by decide +kernel
theorem dX2_count_72 : decode cX2_count 72 = .ok (.iload_n 1, 1) := by decide +kernel
theorem dX2_count_73 : decode cX2_count 73 = .ok (.iaload, 1) := by decide +kernel
theorem dX2_count_74 : decode cX2_count 74 = .ok (.ireturn, 1) := by decide +kernel
theorem dX2_count_75 : decode cX2_count 75 = .ok (.aload_n 0, 1) := by decide +kernel
theorem dX2_count_76 : decode cX2_count 76 = .ok (.getfield 9, 3) := by decide +kernel
theorem dX2_count_79 : decode cX2_count 79 = .ok (.invokestatic 143, 3) := by decide +kernel
theorem dX2_count_82 : decode cX2_count 82 = .ok (.ireturn, 1) := by decide +kernel
theorem dX2_count_83 : decode cX2_count 83 = .ok (.aload_n 0, 1) := by decide +kernel
theorem dX2_count_84 : decode cX2_count 84 = .ok (.getfield 9, 3) := by decide +kernel
theorem dX2_count_87 : decode cX2_count 87 = .ok (.invokestatic 225, 3) := by decide +kernel
theorem dX2_count_90 : decode cX2_count 90 = .ok (.ireturn, 1) := by decide +kernel
theorem dX2_count_91 : decode cX2_count 91 = .ok (.aload_n 0, 1) := by decide +kernel
theorem dX2_count_92 : decode cX2_count 92 = .ok (.invokevirtual 171, 3) := by decide +kernel
theorem dX2_count_95 : decode cX2_count 95 = .ok (.ireturn, 1) := by decide +kernel
theorem dX2_count_96 : decode cX2_count 96 = .ok (.aload_n 0, 1) := by decide +kernel
theorem dX2_count_97 : decode cX2_count 97 = .ok (.getfield 9, 3) := by decide +kernel
theorem dX2_count_100 : decode cX2_count 100 = .ok (.bipush 33, 2) := by decide +kernel
theorem dX2_count_102 : decode cX2_count 102 = .ok (.bipush 30, 2) := by decide +kernel
theorem dX2_count_104 : decode cX2_count 104 = .ok (.iconst 1, 1) := by decide +kernel
theorem dX2_count_105 : decode cX2_count 105 = .ok (.invokestatic 81, 3) := by decide +kernel
theorem dX2_count_108 : decode cX2_count 108 = .ok (.ireturn, 1) := by decide +kernel
theorem dX2_count_109 : decode cX2_count 109 = .ok (.aload_n 0, 1) := by decide +kernel
theorem dX2_count_110 : decode cX2_count 110 = .ok (.getfield 213, 3) := by decide +kernel
theorem dX2_count_113 : decode cX2_count 113 = .ok (.ireturn, 1) := by decide +kernel
theorem dX2_count_114 : decode cX2_count 114 = .ok (.aload_n 0, 1) := by decide +kernel
theorem dX2_count_115 : decode cX2_count 115 = .ok (.getfield 85, 3) := by decide +kernel
theorem dX2_count_118 : decode cX2_count 118 = .ok (.ireturn, 1) := by decide +kernel
theorem dX2_count_119 : decode cX2_count 119 = .ok (.bipush (-9), 2) := by decide +kernel
theorem dX2_count_121 : decode cX2_count 121 = .ok (.ireturn, 1) := by decide +kernel
