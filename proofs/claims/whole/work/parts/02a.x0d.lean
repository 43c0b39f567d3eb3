set_option maxRecDepth 20000 in
theorem ggX0_init_J7_fill_53178 : GoodIn wsX0_init wsJ7_fill_53178 := goodIn_r _ [14] (by decide +kernel) (by decide +kernel)
set_option maxRecDepth 20000 in
theorem gX0_init_J7_fill_53178 : GoodIn wsX0_init (va_wsS RX0 30 yJ7_fill_53178 wsJ7_fill_53178) := goodIn_app (goodIn_of _ (by decide +kernel)) ggX0_init_J7_fill_53178
theorem dX0_init_0 : decode cX0_init 0 = .ok (.aload_n 0, 1) := by decide +kernel
theorem dX0_init_1 : decode cX0_init 1 = .ok (.invokespecial 3, 3) := by decide +kernel
theorem dX0_init_4 : decode cX0_init 4 = .ok (.aload_n 0, 1) := by decide +kernel
theorem dX0_init_5 : decode cX0_init 5 = .ok (.bipush 30, 2) := by decide +kernel
theorem dX0_init_7 : decode cX0_init 7 = .ok (.newarray .int, 2) := by decide +kernel
theorem dX0_init_9 : decode cX0_init 9 = .ok (.putfield 9, 3) := by decide +kernel
theorem dX0_init_12 : decode cX0_init 12 = .ok (.aload_n 0, 1) := by decide +kernel
theorem dX0_init_13 : decode cX0_init 13 = .ok (.bipush 30, 2) := by decide +kernel
theorem dX0_init_15 : decode cX0_init 15 = .ok (.newarray .int, 2) := by decide +kernel
theorem dX0_init_17 : decode cX0_init 17 = .ok (.putfield 15, 3) := by decide +kernel
theorem dX0_init_20 : decode cX0_init 20 = .ok (.aload_n 0, 1) := by decide +kernel
theorem dX0_init_21 : decode cX0_init 21 = .ok (.bipush 30, 2) := by decide +kernel
theorem dX0_init_23 : decode cX0_init 23 = .ok (.newarray .int, 2) := by decide +kernel
theorem dX0_init_25 : decode cX0_init 25 = .ok (.putfield 18, 3) := by decide +kernel
theorem dX0_init_28 : decode cX0_init 28 = .ok (.aload_n 0, 1) := by decide +kernel
theorem dX0_init_29 : decode cX0_init 29 = .ok (.iconst 4, 1) := by decide +kernel
theorem dX0_init_30 : decode cX0_init 30 = .ok (.newarray .int, 2) := by decide +kernel
theorem dX0_init_32 : decode cX0_init 32 = .ok (.putfield 21, 3) := by decide +kernel
theorem dX0_init_35 : decode cX0_init 35 = .ok (.aload_n 0, 1) := by decide +kernel
theorem dX0_init_36 : decode cX0_init 36 = .ok (.iconst 4, 1) := by decide +kernel
theorem dX0_init_37 : decode cX0_init 37 = .ok (.newarray .int, 2) := by decide +kernel
theorem dX0_init_39 : decode cX0_init 39 = .ok (.putfield 24, 3) := by decide +kernel
theorem dX0_init_42 : decode cX0_init 42 = .ok (.aload_n 0, 1) := by decide +kernel
theorem dX0_init_43 : decode cX0_init 43 = .ok (.iconst 4, 1) := by decide +kernel
theorem dX0_init_44 : decode cX0_init 44 = .ok (.newarray .int, 2) := by decide +kernel
theorem dX0_init_46 : decode cX0_init 46 = .ok (.putfield 27, 3) := by decide +kernel
theorem dX0_init_49 : decode cX0_init 49 = .ok (.aload_n 0, 1) := by decide +kernel
theorem dX0_init_50 : decode cX0_init 50 = .ok (.getfield 18, 3) := by decide +kernel
theorem dX0_init_53 : decode cX0_init 53 = .ok (.bipush 9, 2) := by decide +kernel
theorem dX0_init_55 : decode cX0_init 55 = .ok (.invokestatic 30, 3) := by decide +kernel
theorem dX0_init_58 : decode cX0_init 58 = .ok (.return_, 1) := by decide +kernel
theorem dX0_becomes_0 : decode cX0_becomes 0 = .ok (.aload_n 1, 1) := by decide +kernel
theorem dX0_becomes_1 : decode cX0_becomes 1 = .ok (.ifnonnull 4, 3) := by decide +kernel
theorem dX0_becomes_4 : decode cX0_becomes 4 = .ok (.return_, 1) := by decide +kernel
theorem dX0_becomes_5 : decode cX0_becomes 5 = .ok (.aload_n 1, 1) := by decide +kernel
theorem dX0_becomes_6 : decode cX0_becomes 6 = .ok (.getfield 9, 3) := by decide +kernel
theorem dX0_becomes_9 : decode cX0_becomes 9 = .ok (.iconst 0, 1) := by decide +kernel
theorem dX0_becomes_10 : decode cX0_becomes 10 = .ok (.aload_n 0, 1) := by decide +kernel
theorem dX0_becomes_11 : decode cX0_becomes 11 = .ok (.getfield 9, 3) := by decide +kernel
theorem dX0_becomes_14 : decode cX0_becomes 14 = .ok (.iconst 0, 1) := by decide +kernel
theorem dX0_becomes_15 : decode cX0_becomes 15 = .ok (.bipush 30, 2) := by decide +kernel
theorem dX0_becomes_17 : decode cX0_becomes 17 = .ok (.invokestatic 36, 3) := by decide +kernel
theorem dX0_becomes_20 : decode cX0_becomes 20 = .ok (.aload_n 1, 1) := by decide +kernel
theorem dX0_becomes_21 : decode cX0_becomes 21 = .ok (.getfield 15, 3) := by decide +kernel
theorem dX0_becomes_24 : decode cX0_becomes 24 = .ok (.iconst 0, 1) := by decide +kernel
theorem dX0_becomes_25 : decode cX0_becomes 25 = .ok (.aload_n 0, 1) := by decide +kernel
theorem dX0_becomes_26 : decode cX0_becomes 26 = .ok (.getfield 15, 3) := by decide +kernel
theorem dX0_becomes_29 : decode cX0_becomes 29 = .ok (.iconst 0, 1) := by decide +kernel
theorem dX0_becomes_30 : decode cX0_becomes 30 = .ok (.bipush 30, 2) := by decide +kernel
theorem dX0_becomes_32 : decode cX0_becomes 32 = .ok (.invokestatic 36, 3) := by decide +kernel
theorem dX0_becomes_35 : decode cX0_becomes 35 = .ok (.aload_n 1, 1) := by decide +kernel
theorem dX0_becomes_36 : decode cX0_becomes 36 = .ok (.getfield 18, 3) := by decide +kernel
theorem dX0_becomes_39 : decode cX0_becomes 39 = .ok (.iconst 0, 1) := by decide +kernel
theorem dX0_becomes_40 : decode cX0_becomes 40 = .ok (.aload_n 0, 1) := by decide +kernel
theorem dX0_becomes_41 : decode cX0_becomes 41 = .ok (.getfield 18, 3) := by decide +kernel
theorem dX0_becomes_44 : decode cX0_becomes 44 = .ok (.iconst 0, 1) := by decide +kernel
theorem dX0_becomes_45 : decode cX0_becomes 45 = .ok (.bipush 30, 2) := by decide +kernel
theorem dX0_becomes_47 : decode cX0_becomes 47 = .ok (.invokestatic 36, 3) := by decide +kernel
theorem dX0_becomes_50 : decode cX0_becomes 50 = .ok (.aload_n 1, 1) := by decide +kernel
theorem dX0_becomes_51 : decode cX0_becomes 51 = .ok (.getfield 21, 3) := by decide +kernel
theorem dX0_becomes_54 : decode cX0_becomes 54 = .ok (.iconst 0, 1) := by decide +kernel
theorem dX0_becomes_55 : decode cX0_becomes 55 = .ok (.aload_n 0, 1) := by decide +kernel
theorem dX0_becomes_56 : decode cX0_becomes 56 = .ok (.getfield 21, 3) := by decide +kernel
theorem dX0_becomes_59 : decode cX0_becomes 59 = .ok (.iconst 0, 1) := by decide +kernel
theorem dX0_becomes_60 : decode cX0_becomes 60 = .ok (.iconst 4, 1) := by decide +kernel
theorem dX0_becomes_61 : decode cX0_becomes 61 = .ok (.invokestatic 36, 3) := by decide +kernel
theorem dX0_becomes_64 : decode cX0_becomes 64 = .ok (.aload_n 1, 1) := by decide +kernel
theorem dX0_becomes_65 : decode cX0_becomes 65 = .ok (.getfield 24, 3) := by decide +kernel
theorem dX0_becomes_68 : decode cX0_becomes 68 = .ok (.iconst 0, 1) := by decide +kernel
theorem dX0_becomes_69 : decode cX0_becomes 69 = .ok (.aload_n 0, 1) := by decide +kernel
theorem dX0_becomes_70 : decode cX0_becomes 70 = .ok (.getfield 24, 3) := by decide +kernel
theorem dX0_becomes_73 : decode cX0_becomes 73 = .ok (.iconst 0, 1) := by decide +kernel
theorem dX0_becomes_74 : decode cX0_becomes 74 = .ok (.iconst 4, 1) := by decide +kernel
theorem dX0_becomes_75 : decode cX0_becomes 75 = .ok (.invokestatic 36, 3) := by decide +kernel
theorem dX0_becomes_78 : decode cX0_becomes 78 = .ok (.aload_n 1, 1) := by decide +kernel
theorem dX0_becomes_79 : decode cX0_becomes 79 = .ok (.getfield 27, 3) := by decide +kernel
theorem dX0_becomes_82 : decode cX0_becomes 82 = .ok (.iconst 0, 1) := by decide +kernel
theorem dX0_becomes_83 : decode cX0_becomes 83 = .ok (.aload_n 0, 1) := by decide +kernel
theorem dX0_becomes_84 : decode cX0_becomes 84 = .ok (.getfield 27, 3) := by decide +kernel
theorem dX0_becomes_87 : decode cX0_becomes 87 = .ok (.iconst 0, 1) := by decide +kernel
theorem dX0_becomes_88 : decode cX0_becomes 88 = .ok (.iconst 4, 1) := by decide +kernel
theorem dX0_becomes_89 : decode cX0_becomes 89 = .ok (.invokestatic 36, 3) := by decide +kernel
theorem dX0_becomes_92 : decode cX0_becomes 92 = .ok (.aload_n 0, 1) := by decide +kernel
theorem dX0_becomes_93 : decode cX0_becomes 93 = .ok (.aload_n 1, 1) := by decide +kernel
theorem dX0_becomes_94 : decode cX0_becomes 94 = .ok (.getfield 42, 3) := by decide +kernel
theorem dX0_becomes_97 : decode cX0_becomes 97 = .ok (.putfield 42, 3) := by decide +kernel
theorem dX0_becomes_100 : decode cX0_becomes 100 = .ok (.aload_n 0, 1) := by decide +kernel
theorem dX0_becomes_101 : decode cX0_becomes 101 = .ok (.aload_n 1, 1) := by decide +kernel
theorem dX0_becomes_102 : decode cX0_becomes 102 = .ok (.getfield 46, 3) := by decide +kernel
theorem dX0_becomes_105 : decode cX0_becomes 105 = .ok (.putfield 46, 3) := by decide +kernel
theorem dX0_becomes_108 : decode cX0_becomes 108 = .ok (.return_, 1) := by decide +kernel
theorem dX0_peopleCount_0 : decode cX0_peopleCount 0 = .ok (.aload_n 0, 1) := by decide +kernel
theorem dX0_peopleCount_1 : decode cX0_peopleCount 1 = .ok (.getfield 42, 3) := by decide +kernel
theorem dX0_peopleCount_4 : decode cX0_peopleCount 4 = .ok (.ireturn, 1) := by decide +kernel
theorem dX0_stepCount_0 : decode cX0_stepCount 0 = .ok (.aload_n 0, 1) := by decide +kernel
theorem dX0_stepCount_1 : decode cX0_stepCount 1 = .ok (.getfield 46, 3) := by decide +kernel
theorem dX0_stepCount_4 : decode cX0_stepCount 4 = .ok (.ireturn, 1) := by decide +kernel
theorem dX0_isFull_0 : decode cX0_isFull 0 = .ok (.aload_n 0, 1) := by decide +kernel
theorem dX0_isFull_1 : decode cX0_isFull 1 = .ok (.getfield 42, 3) := by decide +kernel
theorem dX0_isFull_4 : decode cX0_isFull 4 = .ok (.iconst 4, 1) := by decide +kernel
theorem dX0_isFull_5 : decode cX0_isFull 5 = .ok (.if_icmp .lt 7, 3) := by decide +kernel
theorem dX0_isFull_8 : decode cX0_isFull 8 = .ok (.iconst 1, 1) := by decide +kernel
theorem dX0_isFull_9 : decode cX0_isFull 9 = .ok (.goto 4, 3) := by decide +kernel
theorem dX0_isFull_12 : decode cX0_isFull 12 = .ok (.iconst 0, 1) := by decide +kernel
theorem dX0_isFull_13 : decode cX0_isFull 13 = .ok (.ireturn, 1) := by decide +kernel
theorem dX0_has_0 : decode cX0_has 0 = .ok (.iload_n 1, 1) := by decide +kernel
theorem dX0_has_1 : decode cX0_has 1 = .ok (.ifCond .lt 20, 3) := by decide +kernel
theorem dX0_has_4 : decode cX0_has 4 = .ok (.iload_n 1, 1) := by decide +kernel
theorem dX0_has_5 : decode cX0_has 5 = .ok (.aload_n 0, 1) := by decide +kernel
theorem dX0_has_6 : decode cX0_has 6 = .ok (.getfield 42, 3) := by decide +kernel
theorem dX0_has_9 : decode cX0_has 9 = .ok (.if_icmp .ge 12, 3) := by decide +kernel
theorem dX0_has_12 : decode cX0_has 12 = .ok (.iload_n 1, 1) := by decide +kernel
theorem dX0_has_13 : decode cX0_has 13 = .ok (.iconst 4, 1) := by decide +kernel
theorem dX0_has_14 : decode cX0_has 14 = .ok (.if_icmp .ge 7, 3) := by decide +kernel
theorem dX0_has_17 : decode cX0_has 17 = .ok (.iconst 1, 1) := by decide +kernel
theorem dX0_has_18 : decode cX0_has 18 = .ok (.goto 4, 3) := by decide +kernel
theorem dX0_has_21 : decode cX0_has 21 = .ok (.iconst 0, 1) := by decide +kernel
theorem dX0_has_22 : decode cX0_has 22 = .ok (.ireturn, 1) := by decide +kernel
theorem dX0_add_0 : decode cX0_add 0 = .ok (.aload_n 0, 1) := by decide +kernel
theorem dX0_add_1 : decode cX0_add 1 = .ok (.getfield 42, 3) := by decide +kernel
theorem dX0_add_4 : decode cX0_add 4 = .ok (.istore_n 3, 1) := by decide +kernel
theorem dX0_add_5 : decode cX0_add 5 = .ok (.iload_n 3, 1) := by decide +kernel
theorem dX0_add_6 : decode cX0_add 6 = .ok (.ifCond .lt 8, 3) := by decide +kernel
theorem dX0_add_9 : decode cX0_add 9 = .ok (.iload_n 3, 1) := by decide +kernel
theorem dX0_add_10 : decode cX0_add 10 = .ok (.iconst 4, 1) := by decide +kernel
theorem dX0_add_11 : decode cX0_add 11 = .ok (.if_icmp .lt 6, 3) := by decide +kernel
theorem dX0_add_14 : decode cX0_add 14 = .ok (.bipush (-9), 2) := by decide +kernel
theorem dX0_add_16 : decode cX0_add 16 = .ok (.ireturn, 1) := by decide +kernel
theorem dX0_add_17 : decode cX0_add 17 = .ok (.aload_n 0, 1) := by decide +kernel
theorem dX0_add_18 : decode cX0_add 18 = .ok (.dup, 1) := by decide +kernel
theorem dX0_add_19 : decode cX0_add 19 = .ok (.getfield 42, 3) := by decide +kernel
theorem dX0_add_22 : decode cX0_add 22 = .ok (.iconst 1, 1) := by decide +kernel
theorem dX0_add_23 : decode cX0_add 23 = .ok (.iadd, 1) := by decide +kernel
theorem dX0_add_24 : decode cX0_add 24 = .ok (.putfield 42, 3) := by decide +kernel
theorem dX0_add_27 : decode cX0_add 27 = .ok (.aload_n 0, 1) := by decide +kernel
theorem dX0_add_28 : decode cX0_add 28 = .ok (.getfield 21, 3) := by decide +kernel
theorem dX0_add_31 : decode cX0_add 31 = .ok (.iload_n 3, 1) := by decide +kernel
theorem dX0_add_32 : decode cX0_add 32 = .ok (.iload_n 1, 1) := by decide +kernel
theorem dX0_add_33 : decode cX0_add 33 = .ok (.iastore, 1) := by decide +kernel
theorem dX0_add_34 : decode cX0_add 34 = .ok (.aload_n 0, 1) := by decide +kernel
theorem dX0_add_35 : decode cX0_add 35 = .ok (.getfield 24, 3) := by decide +kernel
theorem dX0_add_38 : decode cX0_add 38 = .ok (.iload_n 3, 1) := by decide +kernel
theorem dX0_add_39 : decode cX0_add 39 = .ok (.iload_n 2, 1) := by decide +kernel
theorem dX0_add_40 : decode cX0_add 40 = .ok (.iastore, 1) := by decide +kernel
theorem dX0_add_41 : decode cX0_add 41 = .ok (.aload_n 0, 1) := by decide +kernel
theorem dX0_add_42 : decode cX0_add 42 = .ok (.getfield 27, 3) := by decide +kernel
theorem dX0_add_45 : decode cX0_add 45 = .ok (.iload_n 3, 1) := by decide +kernel
theorem dX0_add_46 : decode cX0_add 46 = .ok (.iconst 0, 1) := by decide +kernel
theorem dX0_add_47 : decode cX0_add 47 = .ok (.iastore, 1) := by decide +kernel
theorem dX0_add_48 : decode cX0_add 48 = .ok (.iload_n 3, 1) := by decide +kernel
theorem dX0_add_49 : decode cX0_add 49 = .ok (.ireturn, 1) := by decide +kernel
set_option maxRecDepth 20000 in
theorem ggX0_kindOf_X1_isNode : GoodIn wsX0_kindOf wsX1_isNode := goodIn_r _ [4] (by decide +kernel) (by decide +kernel)
set_option maxRecDepth 20000 in
theorem gX0_kindOf_X1_isNode_n49 : GoodIn wsX0_kindOf (wsX1_isNode) := ggX0_kindOf_X1_isNode
theorem dX0_kindOf_0 : decode cX0_kindOf 0 = .ok (.iload_n 1, 1) := by decide +kernel
theorem dX0_kindOf_1 : decode cX0_kindOf 1 = .ok (.invokestatic 49, 3) := by decide +kernel
theorem dX0_kindOf_4 : decode cX0_kindOf 4 = .ok (.ifCond .eq 12, 3) := by decide +kernel
theorem dX0_kindOf_7 : decode cX0_kindOf 7 = .ok (.aload_n 0, 1) := by decide +kernel
theorem dX0_kindOf_8 : decode cX0_kindOf 8 = .ok (.getfield 9, 3) := by decide +kernel
theorem dX0_kindOf_11 : decode cX0_kindOf 11 = .ok (.iload_n 1, 1) := by decide +kernel
theorem dX0_kindOf_12 : decode cX0_kindOf 12 = .ok (.iaload, 1) := by decide +kernel
theorem dX0_kindOf_13 : decode cX0_kindOf 13 = .ok (.goto 4, 3) := by decide +kernel
theorem dX0_kindOf_16 : decode cX0_kindOf 16 = .ok (.iconst 0, 1) := by decide +kernel
theorem dX0_kindOf_17 : decode cX0_kindOf 17 = .ok (.ireturn, 1) := by decide +kernel
set_option maxRecDepth 20000 in
theorem ggX0_figureOf_X1_isNode : GoodIn wsX0_figureOf wsX1_isNode := goodIn_r _ [4] (by decide +kernel) (by decide +kernel)
set_option maxRecDepth 20000 in
theorem gX0_figureOf_X1_isNode_n49 : GoodIn wsX0_figureOf (wsX1_isNode) := ggX0_figureOf_X1_isNode
theorem dX0_figureOf_0 : decode cX0_figureOf 0 = .ok (.iload_n 1, 1) := by decide +kernel
theorem dX0_figureOf_1 : decode cX0_figureOf 1 = .ok (.invokestatic 49, 3) := by decide +kernel
theorem dX0_figureOf_4 : decode cX0_figureOf 4 = .ok (.ifCond .eq 12, 3) := by decide +kernel
theorem dX0_figureOf_7 : decode cX0_figureOf 7 = .ok (.aload_n 0, 1) := by decide +kernel
theorem dX0_figureOf_8 : decode cX0_figureOf 8 = .ok (.getfield 15, 3) := by decide +kernel
theorem dX0_figureOf_11 : decode cX0_figureOf 11 = .ok (.iload_n 1, 1) := by decide +kernel
theorem dX0_figureOf_12 : decode cX0_figureOf 12 = .ok (.iaload, 1) := by decide +kernel
theorem dX0_figureOf_13 : decode cX0_figureOf 13 = .ok (.goto 4, 3) := by decide +kernel
theorem dX0_figureOf_16 : decode cX0_figureOf 16 = .ok (.iconst 0, 1) := by decide +kernel
theorem dX0_figureOf_17 : decode cX0_figureOf 17 = .ok (.ireturn, 1) := by decide +kernel
set_option maxRecDepth 20000 in
theorem ggX0_wetOf_X1_isNode : GoodIn wsX0_wetOf wsX1_isNode := goodIn_r _ [4] (by decide +kernel) (by decide +kernel)
set_option maxRecDepth 20000 in
theorem gX0_wetOf_X1_isNode_n49 : GoodIn wsX0_wetOf (wsX1_isNode) := ggX0_wetOf_X1_isNode
theorem dX0_wetOf_0 : decode cX0_wetOf 0 = .ok (.iload_n 1, 1) := by decide +kernel
theorem dX0_wetOf_1 : decode cX0_wetOf 1 = .ok (.invokestatic 49, 3) := by decide +kernel
theorem dX0_wetOf_4 : decode cX0_wetOf 4 = .ok (.ifCond .eq 12, 3) := by decide +kernel
theorem dX0_wetOf_7 : decode cX0_wetOf 7 = .ok (.aload_n 0, 1) := by decide +kernel
theorem dX0_wetOf_8 : decode cX0_wetOf 8 = .ok (.getfield 18, 3) := by decide +kernel
theorem dX0_wetOf_11 : decode cX0_wetOf 11 = .ok (.iload_n 1, 1) := by decide +kernel
theorem dX0_wetOf_12 : decode cX0_wetOf 12 = .ok (.iaload, 1) := by decide +kernel
theorem dX0_wetOf_13 : decode cX0_wetOf 13 = .ok (.goto 4, 3) := by decide +kernel
theorem dX0_wetOf_16 : decode cX0_wetOf 16 = .ok (.iconst 0, 1) := by decide +kernel
theorem dX0_wetOf_17 : decode cX0_wetOf 17 = .ok (.ireturn, 1) := by decide +kernel
set_option maxRecDepth 20000 in
theorem ggX0_putKind_X1_isNode : GoodIn wsX0_putKind wsX1_isNode := goodIn_r _ [4] (by decide +kernel) (by decide +kernel)
set_option maxRecDepth 20000 in
theorem gX0_putKind_X1_isNode_n49 : GoodIn wsX0_putKind (wsX1_isNode) := ggX0_putKind_X1_isNode
theorem dX0_putKind_0 : decode cX0_putKind 0 = .ok (.iload_n 1, 1) := by decide +kernel
theorem dX0_putKind_1 : decode cX0_putKind 1 = .ok (.invokestatic 49, 3) := by decide +kernel
theorem dX0_putKind_4 : decode cX0_putKind 4 = .ok (.ifCond .eq 10, 3) := by decide +kernel
theorem dX0_putKind_7 : decode cX0_putKind 7 = .ok (.aload_n 0, 1) := by decide +kernel
theorem dX0_putKind_8 : decode cX0_putKind 8 = .ok (.getfield 9, 3) := by decide +kernel
theorem dX0_putKind_11 : decode cX0_putKind 11 = .ok (.iload_n 1, 1) := by decide +kernel
theorem dX0_putKind_12 : decode cX0_putKind 12 = .ok (.iload_n 2, 1) := by decide +kernel
theorem dX0_putKind_13 : decode cX0_putKind 13 = .ok (.iastore, 1) := by decide +kernel
theorem dX0_putKind_14 : decode cX0_putKind 14 = .ok (.return_, 1) := by decide +kernel
set_option maxRecDepth 20000 in
theorem ggX0_putFigure_X1_isNode : GoodIn wsX0_putFigure wsX1_isNode := goodIn_r _ [4] (by decide +kernel) (by decide +kernel)
set_option maxRecDepth 20000 in
theorem gX0_putFigure_X1_isNode_n49 : GoodIn wsX0_putFigure (wsX1_isNode) := ggX0_putFigure_X1_isNode
theorem dX0_putFigure_0 : decode cX0_putFigure 0 = .ok (.iload_n 1, 1) := by decide +kernel
theorem dX0_putFigure_1 : decode cX0_putFigure 1 = .ok (.invokestatic 49, 3) := by decide +kernel
theorem dX0_putFigure_4 : decode cX0_putFigure 4 = .ok (.ifCond .eq 10, 3) := by decide +kernel
theorem dX0_putFigure_7 : decode cX0_putFigure 7 = .ok (.aload_n 0, 1) := by decide +kernel
theorem dX0_putFigure_8 : decode cX0_putFigure 8 = .ok (.getfield 15, 3) := by decide +kernel
theorem dX0_putFigure_11 : decode cX0_putFigure 11 = .ok (.iload_n 1, 1) := by decide +kernel
theorem dX0_putFigure_12 : decode cX0_putFigure 12 = .ok (.iload_n 2, 1) := by decide +kernel
theorem dX0_putFigure_13 : decode cX0_putFigure 13 = .ok (.iastore, 1) := by decide +kernel
theorem dX0_putFigure_14 : decode cX0_putFigure 14 = .ok (.return_, 1) := by decide +kernel
set_option maxRecDepth 20000 in
theorem ggX0_putWet_X1_isNode : GoodIn wsX0_putWet wsX1_isNode := goodIn_r _ [4] (by decide +kernel) (by decide +kernel)
set_option maxRecDepth 20000 in
theorem gX0_putWet_X1_isNode_n49 : GoodIn wsX0_putWet (wsX1_isNode) := ggX0_putWet_X1_isNode
theorem dX0_putWet_0 : decode cX0_putWet 0 = .ok (.iload_n 1, 1) := by decide +kernel
theorem dX0_putWet_1 : decode cX0_putWet 1 = .ok (.invokestatic 49, 3) := by decide +kernel
theorem dX0_putWet_4 : decode cX0_putWet 4 = .ok (.ifCond .eq 10, 3) := by decide +kernel
theorem dX0_putWet_7 : decode cX0_putWet 7 = .ok (.aload_n 0, 1) := by decide +kernel
theorem dX0_putWet_8 : decode cX0_putWet 8 = .ok (.getfield 18, 3) := by decide +kernel
theorem dX0_putWet_11 : decode cX0_putWet 11 = .ok (.iload_n 1, 1) := by decide +kernel
theorem dX0_putWet_12 : decode cX0_putWet 12 = .ok (.iload_n 2, 1) := by decide +kernel
theorem dX0_putWet_13 : decode cX0_putWet 13 = .ok (.iastore, 1) := by decide +kernel
theorem dX0_putWet_14 : decode cX0_putWet 14 = .ok (.return_, 1) := by decide +kernel
set_option maxRecDepth 20000 in
theorem ggX0_placeOf_X0_has : GoodIn wsX0_placeOf wsX0_has := goodIn_r _ [6, 7, 8, 9, 10, 11, 12, 13, 14, 15] (by decide +kernel) (by decide +kernel)
set_option maxRecDepth 20000 in
theorem gX0_placeOf_X0_has : GoodIn wsX0_placeOf (wsV RX0 53 RX0 yX0_has wsX0_has) := goodIn_app (goodIn_of _ (by decide +kernel)) ggX0_placeOf_X0_has
theorem dX0_placeOf_0 : decode cX0_placeOf 0 = .ok (.aload_n 0, 1) := by decide +kernel
theorem dX0_placeOf_1 : decode cX0_placeOf 1 = .ok (.iload_n 1, 1) := by decide +kernel
theorem dX0_placeOf_2 : decode cX0_placeOf 2 = .ok (.invokevirtual 53, 3) := by decide +kernel
theorem dX0_placeOf_5 : decode cX0_placeOf 5 = .ok (.ifCond .eq 12, 3) := by decide +kernel
theorem dX0_placeOf_8 : decode cX0_placeOf 8 = .ok (.aload_n 0, 1) := by decide +kernel
theorem dX0_placeOf_9 : decode cX0_placeOf 9 = .ok (.getfield 21, 3) := by decide +kernel
theorem dX0_placeOf_12 : decode cX0_placeOf 12 = .ok (.iload_n 1, 1) := by decide +kernel
theorem dX0_placeOf_13 : decode cX0_placeOf 13 = .ok (.iaload, 1) := by decide +kernel
theorem dX0_placeOf_14 : decode cX0_placeOf 14 = .ok (.goto 4, 3) := by decide +kernel
theorem dX0_placeOf_17 : decode cX0_placeOf 17 = .ok (.iconst 0, 1) := by decide +kernel
theorem dX0_placeOf_18 : decode cX0_placeOf 18 = .ok (.ireturn, 1) := by decide +kernel
set_option maxRecDepth 20000 in
theorem ggX0_headingOf_X0_has : GoodIn wsX0_headingOf wsX0_has := goodIn_r _ [6, 7, 8, 9, 10, 11, 12, 13, 14, 15] (by decide +kernel) (by decide +kernel)
set_option maxRecDepth 20000 in
theorem gX0_headingOf_X0_has : GoodIn wsX0_headingOf (wsV RX0 53 RX0 yX0_has wsX0_has) := goodIn_app (goodIn_of _ (by decide +kernel)) ggX0_headingOf_X0_has
theorem dX0_headingOf_0 : decode cX0_headingOf 0 = .ok (.aload_n 0, 1) := by decide +kernel
theorem dX0_headingOf_1 : decode cX0_headingOf 1 = .ok (.iload_n 1, 1) := by decide +kernel
theorem dX0_headingOf_2 : decode cX0_headingOf 2 = .ok (.invokevirtual 53, 3) := by decide +kernel
theorem dX0_headingOf_5 : decode cX0_headingOf 5 = .ok (.ifCond .eq 12, 3) := by decide +kernel
theorem dX0_headingOf_8 : decode cX0_headingOf 8 = .ok (.aload_n 0, 1) := by decide +kernel
theorem dX0_headingOf_9 : decode cX0_headingOf 9 = .ok (.getfield 24, 3) := by decide +kernel
theorem dX0_headingOf_12 : decode cX0_headingOf 12 = .ok (.iload_n 1, 1) := by decide +kernel
theorem dX0_headingOf_13 : decode cX0_headingOf 13 = .ok (.iaload, 1) := by decide +kernel
theorem dX0_headingOf_14 : decode cX0_headingOf 14 = .ok (.goto 4, 3) := by decide +kernel
theorem dX0_headingOf_17 : decode cX0_headingOf 17 = .ok (.iconst 0, 1) := by decide +kernel
theorem dX0_headingOf_18 : decode cX0_headingOf 18 = .ok (.ireturn, 1) := by decide +kernel
set_option maxRecDepth 20000 in
theorem ggX0_helpedOf_X0_has : GoodIn wsX0_helpedOf wsX0_has := goodIn_r _ [6, 7, 8, 9, 10, 11, 12, 13, 14, 15] (by decide +kernel) (by decide +kernel)
set_option maxRecDepth 20000 in
theorem gX0_helpedOf_X0_has : GoodIn wsX0_helpedOf (wsV RX0 53 RX0 yX0_has wsX0_has) := goodIn_app (goodIn_of _ (by decide +kernel)) ggX0_helpedOf_X0_has
theorem dX0_helpedOf_0 : decode cX0_helpedOf 0 = .ok (.aload_n 0, 1) := by decide +kernel
theorem dX0_helpedOf_1 : decode cX0_helpedOf 1 = .ok (.iload_n 1, 1) := by decide +kernel
theorem dX0_helpedOf_2 : decode cX0_helpedOf 2 = .ok (.invokevirtual 53, 3) := by decide +kernel
theorem dX0_helpedOf_5 : decode cX0_helpedOf 5 = .ok (.ifCond .eq 12, 3) := by decide +kernel
theorem dX0_helpedOf_8 : decode cX0_helpedOf 8 = .ok (.aload_n 0, 1) := by decide +kernel
theorem dX0_helpedOf_9 : decode cX0_helpedOf 9 = .ok (.getfield 27, 3) := by decide +kernel
theorem dX0_helpedOf_12 : decode cX0_helpedOf 12 = .ok (.iload_n 1, 1) := by decide +kernel
theorem dX0_helpedOf_13 : decode cX0_helpedOf 13 = .ok (.iaload, 1) := by decide +kernel
theorem dX0_helpedOf_14 : decode cX0_helpedOf 14 = .ok (.goto 4, 3) := by decide +kernel
theorem dX0_helpedOf_17 : decode cX0_helpedOf 17 = .ok (.iconst 0, 1) := by decide +kernel
theorem dX0_helpedOf_18 : decode cX0_helpedOf 18 = .ok (.ireturn, 1) := by decide +kernel
set_option maxRecDepth 20000 in
theorem ggX0_putPlace_X0_has : GoodIn wsX0_putPlace wsX0_has := goodIn_r _ [6, 7, 8, 9, 10, 11, 12, 13, 14, 15] (by decide +kernel) (by decide +kernel)
set_option maxRecDepth 20000 in
theorem gX0_putPlace_X0_has : GoodIn wsX0_putPlace (wsV RX0 53 RX0 yX0_has wsX0_has) := goodIn_app (goodIn_of _ (by decide +kernel)) ggX0_putPlace_X0_has
theorem dX0_putPlace_0 : decode cX0_putPlace 0 = .ok (.aload_n 0, 1) := by decide +kernel
theorem dX0_putPlace_1 : decode cX0_putPlace 1 = .ok (.iload_n 1, 1) := by decide +kernel
theorem dX0_putPlace_2 : decode cX0_putPlace 2 = .ok (.invokevirtual 53, 3) := by decide +kernel
theorem dX0_putPlace_5 : decode cX0_putPlace 5 = .ok (.ifCond .eq 10, 3) := by decide +kernel
theorem dX0_putPlace_8 : decode cX0_putPlace 8 = .ok (.aload_n 0, 1) := by decide +kernel
theorem dX0_putPlace_9 : decode cX0_putPlace 9 = .ok (.getfield 21, 3) := by decide +kernel
theorem dX0_putPlace_12 : decode cX0_putPlace 12 = .ok (.iload_n 1, 1) := by decide +kernel
theorem dX0_putPlace_13 : decode cX0_putPlace 13 = .ok (.iload_n 2, 1) := by decide +kernel
theorem dX0_putPlace_14 : decode cX0_putPlace 14 = .ok (.iastore, 1) := by decide +kernel
theorem dX0_putPlace_15 : decode cX0_putPlace 15 = .ok (.return_, 1) := by decide +kernel
set_option maxRecDepth 20000 in
theorem ggX0_putHeading_X0_has : GoodIn wsX0_putHeading wsX0_has := goodIn_r _ [6, 7, 8, 9, 10, 11, 12, 13, 14, 15] (by decide +kernel) (by decide +kernel)
set_option maxRecDepth 20000 in
theorem gX0_putHeading_X0_has : GoodIn wsX0_putHeading (wsV RX0 53 RX0 yX0_has wsX0_has) := goodIn_app (goodIn_of _ (by decide +kernel)) ggX0_putHeading_X0_has
theorem dX0_putHeading_0 : decode cX0_putHeading 0 = .ok (.aload_n 0, 1) := by decide +kernel
theorem dX0_putHeading_1 : decode cX0_putHeading 1 = .ok (.iload_n 1, 1) := by decide +kernel
theorem dX0_putHeading_2 : decode cX0_putHeading 2 = .ok (.invokevirtual 53, 3) := by decide +kernel
theorem dX0_putHeading_5 : decode cX0_putHeading 5 = .ok (.ifCond .eq 10, 3) := by decide +kernel
theorem dX0_putHeading_8 : decode cX0_putHeading 8 = .ok (.aload_n 0, 1) := by decide +kernel
theorem dX0_putHeading_9 : decode cX0_putHeading 9 = .ok (.getfield 24, 3) := by decide +kernel
theorem dX0_putHeading_12 : decode cX0_putHeading 12 = .ok (.iload_n 1, 1) := by decide +kernel
theorem dX0_putHeading_13 : decode cX0_putHeading 13 = .ok (.iload_n 2, 1) := by decide +kernel
theorem dX0_putHeading_14 : decode cX0_putHeading 14 = .ok (.iastore, 1) := by decide +kernel
theorem dX0_putHeading_15 : decode cX0_putHeading 15 = .ok (.return_, 1) := by decide +kernel
set_option maxRecDepth 20000 in
theorem ggX0_ofPerson_X0_placeOf : GoodIn wsX0_ofPerson wsX0_placeOf := goodIn_r _ [5, 6, 7, 8, 9, 4, 10, 11, 22, 23, 24, 25, 26, 27, 28, 29] (by decide +kernel) (by decide +kernel)
set_option maxRecDepth 20000 in
theorem gX0_ofPerson_X0_placeOf : GoodIn wsX0_ofPerson (wsV RX0 56 RX0 yX0_placeOf wsX0_placeOf) := goodIn_app (goodIn_of _ (by decide +kernel)) ggX0_ofPerson_X0_placeOf
set_option maxRecDepth 20000 in
theorem ggX0_ofPerson_X0_headingOf : GoodIn wsX0_ofPerson wsX0_headingOf := goodIn_r _ [15, 16, 7, 8, 9, 4, 10, 11, 22, 23, 24, 25, 26, 27, 28, 29] (by decide +kernel) (by decide +kernel)
set_option maxRecDepth 20000 in
theorem gX0_ofPerson_X0_headingOf : GoodIn wsX0_ofPerson (wsV RX0 60 RX0 yX0_headingOf wsX0_headingOf) := goodIn_app (goodIn_of _ (by decide +kernel)) ggX0_ofPerson_X0_headingOf
set_option maxRecDepth 20000 in
theorem ggX0_ofPerson_X0_helpedOf : GoodIn wsX0_ofPerson wsX0_helpedOf := goodIn_r _ [20, 21, 7, 8, 9, 4, 10, 11, 22, 23, 24, 25, 26, 27, 28, 29] (by decide +kernel) (by decide +kernel)
set_option maxRecDepth 20000 in
theorem gX0_ofPerson_X0_helpedOf : GoodIn wsX0_ofPerson (wsV RX0 63 RX0 yX0_helpedOf wsX0_helpedOf) := goodIn_app (goodIn_of _ (by decide +kernel)) ggX0_ofPerson_X0_helpedOf
theorem dX0_ofPerson_0 : decode cX0_ofPerson 0 = .ok (.iload_n 2, 1) := by decide +kernel
theorem dX0_ofPerson_1 : decode cX0_ofPerson 1 = .ok (.ifCond .ne 9, 3) := by decide +kernel
theorem dX0_ofPerson_4 : decode cX0_ofPerson 4 = .ok (.aload_n 0, 1) := by decide +kernel
theorem dX0_ofPerson_5 : decode cX0_ofPerson 5 = .ok (.iload_n 1, 1) := by decide +kernel
theorem dX0_ofPerson_6 : decode cX0_ofPerson 6 = .ok (.invokevirtual 56, 3) := by decide +kernel
theorem dX0_ofPerson_9 : decode cX0_ofPerson 9 = .ok (.ireturn, 1) := by decide +kernel
theorem dX0_ofPerson_10 : decode cX0_ofPerson 10 = .ok (.iload_n 2, 1) := by decide +kernel
theorem dX0_ofPerson_11 : decode cX0_ofPerson 11 = .ok (.iconst 1, 1) := by decide +kernel
theorem dX0_ofPerson_12 : decode cX0_ofPerson 12 = .ok (.if_icmp .ne 11, 3) := by decide +kernel
theorem dX0_ofPerson_15 : decode cX0_ofPerson 15 = .ok (.aload_n 0, 1) := by decide +kernel
theorem dX0_ofPerson_16 : decode cX0_ofPerson 16 = .ok (.iload_n 1, 1) := by decide +kernel
theorem dX0_ofPerson_17 : decode cX0_ofPerson 17 = .ok (.invokevirtual 60, 3) := by decide +kernel
theorem dX0_ofPerson_20 : decode cX0_ofPerson 20 = .ok (.goto 8, 3) := by decide +kernel
theorem dX0_ofPerson_23 : decode cX0_ofPerson 23 = .ok (.aload_n 0, 1) := by decide +kernel
theorem dX0_ofPerson_24 : decode cX0_ofPerson 24 = .ok (.iload_n 1, 1) := by decide +kernel
theorem dX0_ofPerson_25 : decode cX0_ofPerson 25 = .ok (.invokevirtual 63, 3) := by decide +kernel
theorem dX0_ofPerson_28 : decode cX0_ofPerson 28 = .ok (.ireturn, 1) := by decide +kernel
set_option maxRecDepth 20000 in
theorem ggX0_wayNext_X0_placeOf : GoodIn wsX0_wayNext wsX0_placeOf := goodIn_r _ [6, 7, 8, 9, 10, 5, 11, 12, 39, 40, 41, 42, 43, 44, 45, 46] (by decide +kernel) (by decide +kernel)
set_option maxRecDepth 20000 in
theorem gX0_wayNext_X0_placeOf : GoodIn wsX0_wayNext (wsV RX0 56 RX0 yX0_placeOf wsX0_placeOf) := goodIn_app (goodIn_of _ (by decide +kernel)) ggX0_wayNext_X0_placeOf
set_option maxRecDepth 20000 in
theorem ggX0_wayNext_X0_wetOf : GoodIn wsX0_wayNext wsX0_wetOf := goodIn_r _ [16, 17, 18, 19, 20, 39, 40, 41, 42, 43, 44, 45, 46] (by decide +kernel) (by decide +kernel)
set_option maxRecDepth 20000 in
theorem gX0_wayNext_X0_wetOf : GoodIn wsX0_wayNext (wsV RX0 66 RX0 yX0_wetOf wsX0_wetOf) := goodIn_app (goodIn_of _ (by decide +kernel)) ggX0_wayNext_X0_wetOf
set_option maxRecDepth 20000 in
theorem ggX0_wayNext_X0_kindOf : GoodIn wsX0_wayNext wsX0_kindOf := goodIn_r _ [24, 25, 18, 19, 20, 39, 40, 41, 42, 43, 44, 45, 46] (by decide +kernel) (by decide +kernel)
set_option maxRecDepth 20000 in
theorem gX0_wayNext_X0_kindOf : GoodIn wsX0_wayNext (wsV RX0 69 RX0 yX0_kindOf wsX0_kindOf) := goodIn_app (goodIn_of _ (by decide +kernel)) ggX0_wayNext_X0_kindOf
set_option maxRecDepth 20000 in
theorem ggX0_wayNext_X0_figureOf : GoodIn wsX0_wayNext wsX0_figureOf := goodIn_r _ [29, 30, 18, 19, 20, 39, 40, 41, 42, 43, 44, 45, 46] (by decide +kernel) (by decide +kernel)
set_option maxRecDepth 20000 in
theorem gX0_wayNext_X0_figureOf : GoodIn wsX0_wayNext (wsV RX0 72 RX0 yX0_figureOf wsX0_figureOf) := goodIn_app (goodIn_of _ (by decide +kernel)) ggX0_wayNext_X0_figureOf
set_option maxRecDepth 20000 in
theorem ggX0_wayNext_X0_headingOf : GoodIn wsX0_wayNext wsX0_headingOf := goodIn_r _ [34, 35, 8, 9, 10, 5, 11, 12, 39, 40, 41, 42, 43, 44, 45, 46] (by decide +kernel) (by decide +kernel)
set_option maxRecDepth 20000 in
theorem gX0_wayNext_X0_headingOf : GoodIn wsX0_wayNext (wsV RX0 60 RX0 yX0_headingOf wsX0_headingOf) := goodIn_app (goodIn_of _ (by decide +kernel)) ggX0_wayNext_X0_headingOf
set_option maxRecDepth 20000 in
theorem ggX0_wayNext_X0_wayBy : GoodIn wsX0_wayNext wsX0_wayBy := goodIn_r _ [38] (by decide +kernel) (by decide +kernel)
set_option maxRecDepth 20000 in
theorem gX0_wayNext_X0_wayBy : GoodIn wsX0_wayNext (va_wsS RX0 75 yX0_wayBy wsX0_wayBy) := goodIn_app (goodIn_of _ (by decide +kernel)) ggX0_wayNext_X0_wayBy
theorem dX0_wayNext_0 : decode cX0_wayNext 0 = .ok (.aload_n 0, 1) := by decide +kernel
theorem dX0_wayNext_1 : decode cX0_wayNext 1 = .ok (.iload_n 1, 1) := by decide +kernel
theorem dX0_wayNext_2 : decode cX0_wayNext 2 = .ok (.invokevirtual 56, 3) := by decide +kernel
theorem dX0_wayNext_5 : decode cX0_wayNext 5 = .ok (.istore_n 2, 1) := by decide +kernel
theorem dX0_wayNext_6 : decode cX0_wayNext 6 = .ok (.aload_n 0, 1) := by decide +kernel
theorem dX0_wayNext_7 : decode cX0_wayNext 7 = .ok (.iload_n 2, 1) := by decide +kernel
theorem dX0_wayNext_8 : decode cX0_wayNext 8 = .ok (.invokevirtual 66, 3) := by decide +kernel
theorem dX0_wayNext_11 : decode cX0_wayNext 11 = .ok (.ifCond .ne 6, 3) := by decide +kernel
theorem dX0_wayNext_14 : decode cX0_wayNext 14 = .ok (.bipush (-9), 2) := by decide +kernel
theorem dX0_wayNext_16 : decode cX0_wayNext 16 = .ok (.ireturn, 1) := by decide +kernel
theorem dX0_wayNext_17 : decode cX0_wayNext 17 = .ok (.aload_n 0, 1) := by decide +kernel
theorem dX0_wayNext_18 : decode cX0_wayNext 18 = .ok (.iload_n 2, 1) := by decide +kernel
theorem dX0_wayNext_19 : decode cX0_wayNext 19 = .ok (.invokevirtual 69, 3) := by decide +kernel
theorem dX0_wayNext_22 : decode cX0_wayNext 22 = .ok (.aload_n 0, 1) := by decide +kernel
theorem dX0_wayNext_23 : decode cX0_wayNext 23 = .ok (.iload_n 2, 1) := by decide +kernel
theorem dX0_wayNext_24 : decode cX0_wayNext 24 = .ok (.invokevirtual 72, 3) := by decide +kernel
theorem dX0_wayNext_27 : decode cX0_wayNext 27 = .ok (.aload_n 0, 1) := by decide +kernel
theorem dX0_wayNext_28 : decode cX0_wayNext 28 = .ok (.iload_n 1, 1) := by decide +kernel
theorem dX0_wayNext_29 : decode cX0_wayNext 29 = .ok (.invokevirtual 60, 3) := by decide +kernel
theorem dX0_wayNext_32 : decode cX0_wayNext 32 = .ok (.aload_n 0, 1) := by decide +kernel
theorem dX0_wayNext_33 : decode cX0_wayNext 33 = .ok (.getfield 46, 3) := by decide +kernel
theorem dX0_wayNext_36 : decode cX0_wayNext 36 = .ok (.iconst 1, 1) := by decide +kernel
theorem dX0_wayNext_37 : decode cX0_wayNext 37 = .ok (.iadd, 1) := by decide +kernel
theorem dX0_wayNext_38 : decode cX0_wayNext 38 = .ok (.invokestatic 75, 3) := by decide +kernel
theorem dX0_wayNext_41 : decode cX0_wayNext 41 = .ok (.ireturn, 1) := by decide +kernel
theorem dX0_wayBy_0 : decode cX0_wayBy 0 = .ok (.iload_n 2, 1) := by decide +kernel
theorem dX0_wayBy_1 : decode cX0_wayBy 1 = .ok (.iconst 3, 1) := by decide +kernel
theorem dX0_wayBy_2 : decode cX0_wayBy 2 = .ok (.iadd, 1) := by decide +kernel
theorem dX0_wayBy_3 : decode cX0_wayBy 3 = .ok (.iconst 4, 1) := by decide +kernel
theorem dX0_wayBy_4 : decode cX0_wayBy 4 = .ok (.irem, 1) := by decide +kernel
theorem dX0_wayBy_5 : decode cX0_wayBy 5 = .ok (.istore 4, 2) := by decide +kernel
theorem dX0_wayBy_7 : decode cX0_wayBy 7 = .ok (.iload_n 0, 1) := by decide +kernel
theorem dX0_wayBy_8 : decode cX0_wayBy 8 = .ok (.tableswitch 80 1 5 #[36, 39, 46, 60, 74], 36) := by decide +kernel
theorem dX0_wayBy_44 : decode cX0_wayBy 44 = .ok (.iload 4, 2) := by decide +kernel
theorem dX0_wayBy_46 : decode cX0_wayBy 46 = .ok (.ireturn, 1) := by decide +kernel
theorem dX0_wayBy_47 : decode cX0_wayBy 47 = .ok (.iload 4, 2) := by decide +kernel
theorem dX0_wayBy_49 : decode cX0_wayBy 49 = .ok (.iconst 2, 1) := by decide +kernel
theorem dX0_wayBy_50 : decode cX0_wayBy 50 = .ok (.iadd, 1) := by decide +kernel
theorem dX0_wayBy_51 : decode cX0_wayBy 51 = .ok (.iconst 4, 1) := by decide +kernel
theorem dX0_wayBy_52 : decode cX0_wayBy 52 = .ok (.irem, 1) := by decide +kernel
theorem dX0_wayBy_53 : decode cX0_wayBy 53 = .ok (.ireturn, 1) := by decide +kernel
theorem dX0_wayBy_54 : decode cX0_wayBy 54 = .ok (.iload_n 3, 1) := by decide +kernel
theorem dX0_wayBy_55 : decode cX0_wayBy 55 = .ok (.iconst 4, 1) := by decide +kernel
theorem dX0_wayBy_56 : decode cX0_wayBy 56 = .ok (.irem, 1) := by decide +kernel
theorem dX0_wayBy_57 : decode cX0_wayBy 57 = .ok (.ifCond .ne 9, 3) := by decide +kernel
theorem dX0_wayBy_60 : decode cX0_wayBy 60 = .ok (.iload_n 1, 1) := by decide +kernel
theorem dX0_wayBy_61 : decode cX0_wayBy 61 = .ok (.iconst 4, 1) := by decide +kernel
theorem dX0_wayBy_62 : decode cX0_wayBy 62 = .ok (.irem, 1) := by decide +kernel
theorem dX0_wayBy_63 : decode cX0_wayBy 63 = .ok (.goto 4, 3) := by decide +kernel
theorem dX0_wayBy_66 : decode cX0_wayBy 66 = .ok (.iload_n 2, 1) := by decide +kernel
theorem dX0_wayBy_67 : decode cX0_wayBy 67 = .ok (.ireturn, 1) := by decide +kernel
theorem dX0_wayBy_68 : decode cX0_wayBy 68 = .ok (.iload_n 3, 1) := by decide +kernel
theorem dX0_wayBy_69 : decode cX0_wayBy 69 = .ok (.iconst 2, 1) := by decide +kernel
theorem dX0_wayBy_70 : decode cX0_wayBy 70 = .ok (.irem, 1) := by decide +kernel
theorem dX0_wayBy_71 : decode cX0_wayBy 71 = .ok (.iconst 1, 1) := by decide +kernel
theorem dX0_wayBy_72 : decode cX0_wayBy 72 = .ok (.if_icmp .ne 8, 3) := by decide +kernel
theorem dX0_wayBy_75 : decode cX0_wayBy 75 = .ok (.iload 4, 2) := by decide +kernel
theorem dX0_wayBy_77 : decode cX0_wayBy 77 = .ok (.goto 4, 3) := by decide +kernel
theorem dX0_wayBy_80 : decode cX0_wayBy 80 = .ok (.iload_n 2, 1) := by decide +kernel
theorem dX0_wayBy_81 : decode cX0_wayBy 81 = .ok (.ireturn, 1) := by decide +kernel
theorem dX0_wayBy_82 : decode cX0_wayBy 82 = .ok (.iload_n 2, 1) := by decide +kernel
theorem dX0_wayBy_83 : decode cX0_wayBy 83 = .ok (.iconst 2, 1) := by decide +kernel
theorem dX0_wayBy_84 : decode cX0_wayBy 84 = .ok (.iadd, 1) := by decide +kernel
theorem dX0_wayBy_85 : decode cX0_wayBy 85 = .ok (.iconst 4, 1) := by decide +kernel
theorem dX0_wayBy_86 : decode cX0_wayBy 86 = .ok (.irem, 1) := by decide +kernel
theorem dX0_wayBy_87 : decode cX0_wayBy 87 = .ok (.ireturn, 1) := by decide +kernel
theorem dX0_wayBy_88 : decode cX0_wayBy 88 = .ok (.iload_n 2, 1) := by decide +kernel
theorem dX0_wayBy_89 : decode cX0_wayBy 89 = .ok (.ireturn, 1) := by decide +kernel
set_option maxRecDepth 20000 in
theorem ggX0_goOn_X0_follow : GoodIn wsX0_goOn wsX0_follow := goodIn_r _ [7, 8, 9, 10, 11, 12, 1, 13, 14, 15, 16, 17, 18, 19, 20, 6, 21, 2, 22, 23, 24, 25, 26, 27, 28, 29, 30, 31, 32, 33, 34, 35, 36, 37] (by decide +kernel) (by decide +kernel)
set_option maxRecDepth 20000 in
theorem gX0_goOn_X0_follow : GoodIn wsX0_goOn (wsV RX0 79 RX0 yX0_follow wsX0_follow) := goodIn_app (goodIn_of _ (by decide +kernel)) ggX0_goOn_X0_follow
theorem dX0_goOn_0 : decode cX0_goOn 0 = .ok (.iconst 0, 1) := by decide +kernel
theorem dX0_goOn_1 : decode cX0_goOn 1 = .ok (.istore_n 3, 1) := by decide +kernel
theorem dX0_goOn_2 : decode cX0_goOn 2 = .ok (.iload_n 3, 1) := by decide +kernel
theorem dX0_goOn_3 : decode cX0_goOn 3 = .ok (.iload_n 1, 1) := by decide +kernel
theorem dX0_goOn_4 : decode cX0_goOn 4 = .ok (.if_icmp .ge 52, 3) := by decide +kernel
theorem dX0_goOn_7 : decode cX0_goOn 7 = .ok (.aload_n 0, 1) := by decide +kernel
theorem dX0_goOn_8 : decode cX0_goOn 8 = .ok (.dup, 1) := by decide +kernel
theorem dX0_goOn_9 : decode cX0_goOn 9 = .ok (.getfield 46, 3) := by decide +kernel
theorem dX0_goOn_12 : decode cX0_goOn 12 = .ok (.iconst 1, 1) := by decide +kernel
theorem dX0_goOn_13 : decode cX0_goOn 13 = .ok (.iadd, 1) := by decide +kernel
theorem dX0_goOn_14 : decode cX0_goOn 14 = .ok (.putfield 46, 3) := by decide +kernel
theorem dX0_goOn_17 : decode cX0_goOn 17 = .ok (.iconst 0, 1) := by decide +kernel
theorem dX0_goOn_18 : decode cX0_goOn 18 = .ok (.istore 4, 2) := by decide +kernel
theorem dX0_goOn_20 : decode cX0_goOn 20 = .ok (.iload 4, 2) := by decide +kernel
theorem dX0_goOn_22 : decode cX0_goOn 22 = .ok (.aload_n 0, 1) := by decide +kernel
theorem dX0_goOn_23 : decode cX0_goOn 23 = .ok (.getfield 42, 3) := by decide +kernel
theorem dX0_goOn_26 : decode cX0_goOn 26 = .ok (.if_icmp .ge 24, 3) := by decide +kernel
theorem dX0_goOn_29 : decode cX0_goOn 29 = .ok (.iload_n 2, 1) := by decide +kernel
theorem dX0_goOn_30 : decode cX0_goOn 30 = .ok (.iload 4, 2) := by decide +kernel
theorem dX0_goOn_32 : decode cX0_goOn 32 = .ok (.ishr, 1) := by decide +kernel
theorem dX0_goOn_33 : decode cX0_goOn 33 = .ok (.iconst 1, 1) := by decide +kernel
theorem dX0_goOn_34 : decode cX0_goOn 34 = .ok (.iand, 1) := by decide +kernel
theorem dX0_goOn_35 : decode cX0_goOn 35 = .ok (.ifCond .ne 9, 3) := by decide +kernel
theorem dX0_goOn_38 : decode cX0_goOn 38 = .ok (.aload_n 0, 1) := by decide +kernel
theorem dX0_goOn_39 : decode cX0_goOn 39 = .ok (.iload 4, 2) := by decide +kernel
theorem dX0_goOn_41 : decode cX0_goOn 41 = .ok (.invokevirtual 79, 3) := by decide +kernel
theorem dX0_goOn_44 : decode cX0_goOn 44 = .ok (.iinc 4 1, 3) := by decide +kernel
theorem dX0_goOn_47 : decode cX0_goOn 47 = .ok (.goto (-27), 3) := by decide +kernel
theorem dX0_goOn_50 : decode cX0_goOn 50 = .ok (.iinc 3 1, 3) := by decide +kernel
theorem dX0_goOn_53 : decode cX0_goOn 53 = .ok (.goto (-51), 3) := by decide +kernel
theorem dX0_goOn_56 : decode cX0_goOn 56 = .ok (.return_, 1) := by decide +kernel
set_option maxRecDepth 20000 in
theorem ggX0_follow_X0_has : GoodIn wsX0_follow wsX0_has := goodIn_r _ [16, 17, 26, 27, 28, 29, 30, 31, 32, 33] (by decide +kernel) (by decide +kernel)
set_option maxRecDepth 20000 in
theorem gX0_follow_X0_has : GoodIn wsX0_follow (wsV RX0 53 RX0 yX0_has wsX0_has) := goodIn_app (goodIn_of _ (by decide +kernel)) ggX0_follow_X0_has
set_option maxRecDepth 20000 in
theorem ggX0_follow_X1_isNode : GoodIn wsX0_follow wsX1_isNode := goodIn_r _ [20] (by decide +kernel) (by decide +kernel)
set_option maxRecDepth 20000 in
theorem gX0_follow_X1_isNode_n49 : GoodIn wsX0_follow (wsX1_isNode) := ggX0_follow_X1_isNode
set_option maxRecDepth 20000 in
theorem ggX0_follow_X0_wayBy : GoodIn wsX0_follow wsX0_wayBy := goodIn_r _ [23] (by decide +kernel) (by decide +kernel)
set_option maxRecDepth 20000 in
theorem gX0_follow_X0_wayBy : GoodIn wsX0_follow (va_wsS RX0 75 yX0_wayBy wsX0_wayBy) := goodIn_app (goodIn_of _ (by decide +kernel)) ggX0_follow_X0_wayBy
set_option maxRecDepth 20000 in
theorem ggX0_follow_X1_nodeThatWay : GoodIn wsX0_follow wsX1_nodeThatWay := goodIn_r _ [25] (by decide +kernel) (by decide +kernel)
set_option maxRecDepth 20000 in
theorem gX0_follow_X1_nodeThatWay_n83 : GoodIn wsX0_follow (wsX1_nodeThatWay) := ggX0_follow_X1_nodeThatWay
theorem dX0_follow_0 : decode cX0_follow 0 = .ok (.aload_n 0, 1) := by decide +kernel
theorem dX0_follow_1 : decode cX0_follow 1 = .ok (.iload_n 1, 1) := by decide +kernel
theorem dX0_follow_2 : decode cX0_follow 2 = .ok (.invokevirtual 53, 3) := by decide +kernel
theorem dX0_follow_5 : decode cX0_follow 5 = .ok (.ifCond .ne 4, 3) := by decide +kernel
theorem dX0_follow_8 : decode cX0_follow 8 = .ok (.return_, 1) := by decide +kernel
theorem dX0_follow_9 : decode cX0_follow 9 = .ok (.aload_n 0, 1) := by decide +kernel
theorem dX0_follow_10 : decode cX0_follow 10 = .ok (.getfield 21, 3) := by decide +kernel
theorem dX0_follow_13 : decode cX0_follow 13 = .ok (.iload_n 1, 1) := by decide +kernel
theorem dX0_follow_14 : decode cX0_follow 14 = .ok (.iaload, 1) := by decide +kernel
theorem dX0_follow_15 : decode cX0_follow 15 = .ok (.istore_n 2, 1) := by decide +kernel
theorem dX0_follow_16 : decode cX0_follow 16 = .ok (.iload_n 2, 1) := by decide +kernel
theorem dX0_follow_17 : decode cX0_follow 17 = .ok (.invokestatic 49, 3) := by decide +kernel
theorem dX0_follow_20 : decode cX0_follow 20 = .ok (.ifCond .eq 12, 3) := by decide +kernel
theorem dX0_follow_23 : decode cX0_follow 23 = .ok (.aload_n 0, 1) := by decide +kernel
theorem dX0_follow_24 : decode cX0_follow 24 = .ok (.getfield 18, 3) := by decide +kernel
theorem dX0_follow_27 : decode cX0_follow 27 = .ok (.iload_n 2, 1) := by decide +kernel
theorem dX0_follow_28 : decode cX0_follow 28 = .ok (.iaload, 1) := by decide +kernel
theorem dX0_follow_29 : decode cX0_follow 29 = .ok (.ifCond .ne 4, 3) := by decide +kernel
theorem dX0_follow_32 : decode cX0_follow 32 = .ok (.return_, 1) := by decide +kernel
theorem dX0_follow_33 : decode cX0_follow 33 = .ok (.aload_n 0, 1) := by decide +kernel
theorem dX0_follow_34 : decode cX0_follow 34 = .ok (.getfield 9, 3) := by decide +kernel
theorem dX0_follow_37 : decode cX0_follow 37 = .ok (.iload_n 2, 1) := by decide +kernel
theorem dX0_follow_38 : decode cX0_follow 38 = .ok (.iaload, 1) := by decide +kernel
theorem dX0_follow_39 : decode cX0_follow 39 = .ok (.aload_n 0, 1) := by decide +kernel
theorem dX0_follow_40 : decode cX0_follow 40 = .ok (.getfield 15, 3) := by decide +kernel
theorem dX0_follow_43 : decode cX0_follow 43 = .ok (.iload_n 2, 1) := by decide +kernel
theorem dX0_follow_44 : decode cX0_follow 44 = .ok (.iaload, 1) := by decide +kernel
theorem dX0_follow_45 : decode cX0_follow 45 = .ok (.aload_n 0, 1) := by decide +kernel
theorem dX0_follow_46 : decode cX0_follow 46 = .ok (.getfield 24, 3) := by decide +kernel
theorem dX0_follow_49 : decode cX0_follow 49 = .ok (.iload_n 1, 1) := by decide +kernel
theorem dX0_follow_50 : decode cX0_follow 50 = .ok (.iaload, 1) := by decide +kernel
theorem dX0_follow_51 : decode cX0_follow 51 = .ok (.aload_n 0, 1) := by decide +kernel
theorem dX0_follow_52 : decode cX0_follow 52 = .ok (.getfield 46, 3) := by decide +kernel
theorem dX0_follow_55 : decode cX0_follow 55 = .ok (.invokestatic 75, 3) := by decide +kernel
theorem dX0_follow_58 : decode cX0_follow 58 = .ok (.istore_n 3, 1) := by decide +kernel
theorem dX0_follow_59 : decode cX0_follow 59 = .ok (.iload_n 2, 1) := by decide +kernel
theorem dX0_follow_60 : decode cX0_follow 60 = .ok (.iload_n 3, 1) := by decide +kernel
theorem dX0_follow_61 : decode cX0_follow 61 = .ok (.invokestatic 83, 3) := by decide +kernel
theorem dX0_follow_64 : decode cX0_follow 64 = .ok (.istore 4, 2) := by decide +kernel
theorem dX0_follow_66 : decode cX0_follow 66 = .ok (.iload 4, 2) := by decide +kernel
theorem dX0_follow_68 : decode cX0_follow 68 = .ok (.ifCond .ge 36, 3) := by decide +kernel
theorem dX0_follow_71 : decode cX0_follow 71 = .ok (.aload_n 0, 1) := by decide +kernel
theorem dX0_follow_72 : decode cX0_follow 72 = .ok (.getfield 24, 3) := by decide +kernel
theorem dX0_follow_75 : decode cX0_follow 75 = .ok (.iload_n 1, 1) := by decide +kernel
theorem dX0_follow_76 : decode cX0_follow 76 = .ok (.iload_n 3, 1) := by decide +kernel
theorem dX0_follow_77 : decode cX0_follow 77 = .ok (.iconst 2, 1) := by decide +kernel
theorem dX0_follow_78 : decode cX0_follow 78 = .ok (.iadd, 1) := by decide +kernel
theorem dX0_follow_79 : decode cX0_follow 79 = .ok (.iconst 4, 1) := by decide +kernel
theorem dX0_follow_80 : decode cX0_follow 80 = .ok (.irem, 1) := by decide +kernel
theorem dX0_follow_81 : decode cX0_follow 81 = .ok (.iastore, 1) := by decide +kernel
theorem dX0_follow_82 : decode cX0_follow 82 = .ok (.aload_n 0, 1) := by decide +kernel
theorem dX0_follow_83 : decode cX0_follow 83 = .ok (.getfield 27, 3) := by decide +kernel
theorem dX0_follow_86 : decode cX0_follow 86 = .ok (.iload_n 1, 1) := by decide +kernel
theorem dX0_follow_87 : decode cX0_follow 87 = .ok (.bipush 99, 2) := by decide +kernel
theorem dX0_follow_89 : decode cX0_follow 89 = .ok (.aload_n 0, 1) := by decide +kernel
theorem dX0_follow_90 : decode cX0_follow 90 = .ok (.getfield 27, 3) := by decide +kernel
theorem dX0_follow_93 : decode cX0_follow 93 = .ok (.iload_n 1, 1) := by decide +kernel
theorem dX0_follow_94 : decode cX0_follow 94 = .ok (.iaload, 1) := by decide +kernel
theorem dX0_follow_95 : decode cX0_follow 95 = .ok (.iconst 1, 1) := by decide +kernel
theorem dX0_follow_96 : decode cX0_follow 96 = .ok (.iadd, 1) := by decide +kernel
theorem dX0_follow_97 : decode cX0_follow 97 = .ok (.invokestatic 87, 3) := by decide +kernel
theorem dX0_follow_100 : decode cX0_follow 100 = .ok (.iastore, 1) := by decide +kernel
theorem dX0_follow_101 : decode cX0_follow 101 = .ok (.goto 37, 3) := by decide +kernel
theorem dX0_follow_104 : decode cX0_follow 104 = .ok (.aload_n 0, 1) := by decide +kernel
theorem dX0_follow_105 : decode cX0_follow 105 = .ok (.getfield 24, 3) := by decide +kernel
theorem dX0_follow_108 : decode cX0_follow 108 = .ok (.iload_n 1, 1) := by decide +kernel
theorem dX0_follow_109 : decode cX0_follow 109 = .ok (.iload_n 3, 1) := by decide +kernel
theorem dX0_follow_110 : decode cX0_follow 110 = .ok (.iastore, 1) := by decide +kernel
theorem dX0_follow_111 : decode cX0_follow 111 = .ok (.aload_n 0, 1) := by decide +kernel
theorem dX0_follow_112 : decode cX0_follow 112 = .ok (.getfield 21, 3) := by decide +kernel
theorem dX0_follow_115 : decode cX0_follow 115 = .ok (.iload_n 1, 1) := by decide +kernel
theorem dX0_follow_116 : decode cX0_follow 116 = .ok (.iload 4, 2) := by decide +kernel
theorem dX0_follow_118 : decode cX0_follow 118 = .ok (.iastore, 1) := by decide +kernel
theorem dX0_follow_119 : decode cX0_follow 119 = .ok (.aload_n 0, 1) := by decide +kernel
theorem dX0_follow_120 : decode cX0_follow 120 = .ok (.getfield 46, 3) := by decide +kernel
theorem dX0_follow_123 : decode cX0_follow 123 = .ok (.iconst 2, 1) := by decide +kernel
theorem dX0_follow_124 : decode cX0_follow 124 = .ok (.irem, 1) := by decide +kernel
theorem dX0_follow_125 : decode cX0_follow 125 = .ok (.ifCond .ne 13, 3) := by decide +kernel
theorem dX0_follow_128 : decode cX0_follow 128 = .ok (.aload_n 0, 1) := by decide +kernel
theorem dX0_follow_129 : decode cX0_follow 129 = .ok (.getfield 18, 3) := by decide +kernel
theorem dX0_follow_132 : decode cX0_follow 132 = .ok (.iload_n 2, 1) := by decide +kernel
theorem dX0_follow_133 : decode cX0_follow 133 = .ok (.dup2, 1) := by decide +kernel
theorem dX0_follow_134 : decode cX0_follow 134 = .ok (.iaload, 1) := by decide +kernel
theorem dX0_follow_135 : decode cX0_follow 135 = .ok (.iconst 1, 1) := by decide +kernel
theorem dX0_follow_136 : decode cX0_follow 136 = .ok (.isub, 1) := by decide +kernel
theorem dX0_follow_137 : decode cX0_follow 137 = .ok (.iastore, 1) := by decide +kernel
theorem dX0_follow_138 : decode cX0_follow 138 = .ok (.return_, 1) := by decide +kernel
set_option maxRecDepth 20000 in
theorem ggX0_soonestAt_X0_placeOf : GoodIn wsX0_soonestAt wsX0_placeOf := goodIn_r _ [5, 6, 7, 8, 9, 4, 10, 11, 38, 39, 40, 41, 42, 43, 44, 45] (by decide +kernel) (by decide +kernel)
set_option maxRecDepth 20000 in
theorem gX0_soonestAt_X0_placeOf : GoodIn wsX0_soonestAt (wsV RX0 56 RX0 yX0_placeOf wsX0_placeOf) := goodIn_app (goodIn_of _ (by decide +kernel)) ggX0_soonestAt_X0_placeOf
set_option maxRecDepth 20000 in
theorem ggX0_soonestAt_X0_goOn : GoodIn wsX0_soonestAt wsX0_goOn := goodIn_r _ [15, 16, 11, 17, 18, 19, 4, 20, 6, 21, 22, 23, 24, 25, 26, 27, 28, 29, 7, 8, 9, 10, 30, 31, 32, 33, 34, 35, 36, 37, 38, 39, 40, 41, 42, 43, 44, 45] (by decide +kernel) (by decide +kernel)
set_option maxRecDepth 20000 in
theorem gX0_soonestAt_X0_goOn : GoodIn wsX0_soonestAt (wsV RX0 92 RX0 yX0_goOn wsX0_goOn) := goodIn_app (goodIn_of _ (by decide +kernel)) ggX0_soonestAt_X0_goOn
theorem dX0_soonestAt_0 : decode cX0_soonestAt 0 = .ok (.iconst 0, 1) := by decide +kernel
theorem dX0_soonestAt_1 : decode cX0_soonestAt 1 = .ok (.istore_n 3, 1) := by decide +kernel
theorem dX0_soonestAt_2 : decode cX0_soonestAt 2 = .ok (.iload_n 3, 1) := by decide +kernel
theorem dX0_soonestAt_3 : decode cX0_soonestAt 3 = .ok (.bipush 60, 2) := by decide +kernel
theorem dX0_soonestAt_5 : decode cX0_soonestAt 5 = .ok (.if_icmp .gt 26, 3) := by decide +kernel
theorem dX0_soonestAt_8 : decode cX0_soonestAt 8 = .ok (.aload_n 0, 1) := by decide +kernel
theorem dX0_soonestAt_9 : decode cX0_soonestAt 9 = .ok (.iload_n 1, 1) := by decide +kernel
theorem dX0_soonestAt_10 : decode cX0_soonestAt 10 = .ok (.invokevirtual 56, 3) := by decide +kernel
theorem dX0_soonestAt_13 : decode cX0_soonestAt 13 = .ok (.iload_n 2, 1) := by decide +kernel
theorem dX0_soonestAt_14 : decode cX0_soonestAt 14 = .ok (.if_icmp .ne 5, 3) := by decide +kernel
theorem dX0_soonestAt_17 : decode cX0_soonestAt 17 = .ok (.iload_n 3, 1) := by decide +kernel
theorem dX0_soonestAt_18 : decode cX0_soonestAt 18 = .ok (.ireturn, 1) := by decide +kernel
theorem dX0_soonestAt_19 : decode cX0_soonestAt 19 = .ok (.aload_n 0, 1) := by decide +kernel
theorem dX0_soonestAt_20 : decode cX0_soonestAt 20 = .ok (.iconst 1, 1) := by decide +kernel
theorem dX0_soonestAt_21 : decode cX0_soonestAt 21 = .ok (.iconst 0, 1) := by decide +kernel
theorem dX0_soonestAt_22 : decode cX0_soonestAt 22 = .ok (.invokevirtual 92, 3) := by decide +kernel
theorem dX0_soonestAt_25 : decode cX0_soonestAt 25 = .ok (.iinc 3 1, 3) := by decide +kernel
theorem dX0_soonestAt_28 : decode cX0_soonestAt 28 = .ok (.goto (-26), 3) := by decide +kernel
theorem dX0_soonestAt_31 : decode cX0_soonestAt 31 = .ok (.bipush (-9), 2) := by decide +kernel
theorem dX0_soonestAt_33 : decode cX0_soonestAt 33 = .ok (.ireturn, 1) := by decide +kernel
set_option maxRecDepth 20000 in
theorem ggX0_visitsIn_X0_placeOf : GoodIn wsX0_visitsIn wsX0_placeOf := goodIn_r _ [5, 6, 7, 8, 9, 4, 10, 11, 45, 46, 47, 48, 49, 50, 51, 52] (by decide +kernel) (by decide +kernel)
set_option maxRecDepth 20000 in
theorem gX0_visitsIn_X0_placeOf : GoodIn wsX0_visitsIn (wsV RX0 56 RX0 yX0_placeOf wsX0_placeOf) := goodIn_app (goodIn_of _ (by decide +kernel)) ggX0_visitsIn_X0_placeOf
set_option maxRecDepth 20000 in
theorem ggX0_visitsIn_X0_goOn : GoodIn wsX0_visitsIn wsX0_goOn := goodIn_r _ [15, 16, 11, 17, 18, 19, 4, 20, 6, 21, 22, 23, 24, 25, 26, 27, 28, 29, 7, 8, 9, 10, 30, 31, 32, 33, 34, 35, 36, 37, 45, 46, 47, 48, 49, 50, 51, 52] (by decide +kernel) (by decide +kernel)
set_option maxRecDepth 20000 in
theorem gX0_visitsIn_X0_goOn : GoodIn wsX0_visitsIn (wsV RX0 92 RX0 yX0_goOn wsX0_goOn) := goodIn_app (goodIn_of _ (by decide +kernel)) ggX0_visitsIn_X0_goOn
set_option maxRecDepth 20000 in
theorem ggX0_visitsIn_J6_bitCount_0f7a4 : GoodIn wsX0_visitsIn wsJ6_bitCount_0f7a4 := goodIn_r _ [41, 42, 43, 44] (by decide +kernel) (by decide +kernel)
set_option maxRecDepth 20000 in
theorem gX0_visitsIn_J6_bitCount_0f7a4 : GoodIn wsX0_visitsIn (va_wsS RX0 96 yJ6_bitCount_0f7a4 wsJ6_bitCount_0f7a4) := goodIn_app (goodIn_of _ (by decide +kernel)) ggX0_visitsIn_J6_bitCount_0f7a4
theorem dX0_visitsIn_0 : decode cX0_visitsIn 0 = .ok (.iconst 1, 1) := by decide +kernel
theorem dX0_visitsIn_1 : decode cX0_visitsIn 1 = .ok (.aload_n 0, 1) := by decide +kernel
theorem dX0_visitsIn_2 : decode cX0_visitsIn 2 = .ok (.iload_n 1, 1) := by decide +kernel
theorem dX0_visitsIn_3 : decode cX0_visitsIn 3 = .ok (.invokevirtual 56, 3) := by decide +kernel
theorem dX0_visitsIn_6 : decode cX0_visitsIn 6 = .ok (.ishl, 1) := by decide +kernel
theorem dX0_visitsIn_7 : decode cX0_visitsIn 7 = .ok (.istore_n 3, 1) := by decide +kernel
theorem dX0_visitsIn_8 : decode cX0_visitsIn 8 = .ok (.iconst 0, 1) := by decide +kernel
theorem dX0_visitsIn_9 : decode cX0_visitsIn 9 = .ok (.istore 4, 2) := by decide +kernel
theorem dX0_visitsIn_11 : decode cX0_visitsIn 11 = .ok (.iload 4, 2) := by decide +kernel
theorem dX0_visitsIn_13 : decode cX0_visitsIn 13 = .ok (.iload_n 2, 1) := by decide +kernel
theorem dX0_visitsIn_14 : decode cX0_visitsIn 14 = .ok (.if_icmp .ge 25, 3) := by decide +kernel
theorem dX0_visitsIn_17 : decode cX0_visitsIn 17 = .ok (.aload_n 0, 1) := by decide +kernel
theorem dX0_visitsIn_18 : decode cX0_visitsIn 18 = .ok (.iconst 1, 1) := by decide +kernel
theorem dX0_visitsIn_19 : decode cX0_visitsIn 19 = .ok (.iconst 0, 1) := by decide +kernel
theorem dX0_visitsIn_20 : decode cX0_visitsIn 20 = .ok (.invokevirtual 92, 3) := by decide +kernel
theorem dX0_visitsIn_23 : decode cX0_visitsIn 23 = .ok (.iload_n 3, 1) := by decide +kernel
theorem dX0_visitsIn_24 : decode cX0_visitsIn 24 = .ok (.iconst 1, 1) := by decide +kernel
theorem dX0_visitsIn_25 : decode cX0_visitsIn 25 = .ok (.aload_n 0, 1) := by decide +kernel
theorem dX0_visitsIn_26 : decode cX0_visitsIn 26 = .ok (.iload_n 1, 1) := by decide +kernel
theorem dX0_visitsIn_27 : decode cX0_visitsIn 27 = .ok (.invokevirtual 56, 3) := by decide +kernel
theorem dX0_visitsIn_30 : decode cX0_visitsIn 30 = .ok (.ishl, 1) := by decide +kernel
theorem dX0_visitsIn_31 : decode cX0_visitsIn 31 = .ok (.ior, 1) := by decide +kernel
theorem dX0_visitsIn_32 : decode cX0_visitsIn 32 = .ok (.istore_n 3, 1) := by decide +kernel
theorem dX0_visitsIn_33 : decode cX0_visitsIn 33 = .ok (.iinc 4 1, 3) := by decide +kernel
theorem dX0_visitsIn_36 : decode cX0_visitsIn 36 = .ok (.goto (-25), 3) := by decide +kernel
theorem dX0_visitsIn_39 : decode cX0_visitsIn 39 = .ok (.iload_n 3, 1) := by decide +kernel
theorem dX0_visitsIn_40 : decode cX0_visitsIn 40 = .ok (.invokestatic 96, 3) := by decide +kernel
theorem dX0_visitsIn_43 : decode cX0_visitsIn 43 = .ok (.ireturn, 1) := by decide +kernel
set_option maxRecDepth 20000 in
theorem ggX0_dryNodes_X0_wetOf : GoodIn wsX0_dryNodes wsX0_wetOf := goodIn_r _ [5, 6, 7, 8, 9, 10, 11, 12, 13, 14, 15, 16, 17] (by decide +kernel) (by decide +kernel)
set_option maxRecDepth 20000 in
theorem gX0_dryNodes_X0_wetOf : GoodIn wsX0_dryNodes (wsV RX0 66 RX0 yX0_wetOf wsX0_wetOf) := goodIn_app (goodIn_of _ (by decide +kernel)) ggX0_dryNodes_X0_wetOf
theorem dX0_dryNodes_0 : decode cX0_dryNodes 0 = .ok (.iconst 0, 1) := by decide +kernel
theorem dX0_dryNodes_1 : decode cX0_dryNodes 1 = .ok (.istore_n 1, 1) := by decide +kernel
theorem dX0_dryNodes_2 : decode cX0_dryNodes 2 = .ok (.iconst 0, 1) := by decide +kernel
theorem dX0_dryNodes_3 : decode cX0_dryNodes 3 = .ok (.istore_n 2, 1) := by decide +kernel
theorem dX0_dryNodes_4 : decode cX0_dryNodes 4 = .ok (.iload_n 2, 1) := by decide +kernel
theorem dX0_dryNodes_5 : decode cX0_dryNodes 5 = .ok (.bipush 30, 2) := by decide +kernel
theorem dX0_dryNodes_7 : decode cX0_dryNodes 7 = .ok (.if_icmp .ge 23, 3) := by decide +kernel
theorem dX0_dryNodes_10 : decode cX0_dryNodes 10 = .ok (.aload_n 0, 1) := by decide +kernel
theorem dX0_dryNodes_11 : decode cX0_dryNodes 11 = .ok (.iload_n 2, 1) := by decide +kernel
theorem dX0_dryNodes_12 : decode cX0_dryNodes 12 = .ok (.invokevirtual 66, 3) := by decide +kernel
theorem dX0_dryNodes_15 : decode cX0_dryNodes 15 = .ok (.ifCond .ne 9, 3) := by decide +kernel
theorem dX0_dryNodes_18 : decode cX0_dryNodes 18 = .ok (.iload_n 1, 1) := by decide +kernel
theorem dX0_dryNodes_19 : decode cX0_dryNodes 19 = .ok (.iconst 1, 1) := by decide +kernel
theorem dX0_dryNodes_20 : decode cX0_dryNodes 20 = .ok (.iload_n 2, 1) := by decide +kernel
theorem dX0_dryNodes_21 : decode cX0_dryNodes 21 = .ok (.ishl, 1) := by decide +kernel
theorem dX0_dryNodes_22 : decode cX0_dryNodes 22 = .ok (.ior, 1) := by decide +kernel
theorem dX0_dryNodes_23 : decode cX0_dryNodes 23 = .ok (.istore_n 1, 1) := by decide +kernel
theorem dX0_dryNodes_24 : decode cX0_dryNodes 24 = .ok (.iinc 2 1, 3) := by decide +kernel
theorem dX0_dryNodes_27 : decode cX0_dryNodes 27 = .ok (.goto (-23), 3) := by decide +kernel
theorem dX0_dryNodes_30 : decode cX0_dryNodes 30 = .ok (.iload_n 1, 1) := by decide +kernel
theorem dX0_dryNodes_31 : decode cX0_dryNodes 31 = .ok (.ireturn, 1) := by decide +kernel
set_option maxRecDepth 20000 in
theorem ggX0_wettest_X0_wetOf : GoodIn wsX0_wettest wsX0_wetOf := goodIn_r _ [5, 6, 7, 8, 9, 10, 11, 12, 13, 14, 15, 16, 17] (by decide +kernel) (by decide +kernel)
set_option maxRecDepth 20000 in
theorem gX0_wettest_X0_wetOf : GoodIn wsX0_wettest (wsV RX0 66 RX0 yX0_wetOf wsX0_wetOf) := goodIn_app (goodIn_of _ (by decide +kernel)) ggX0_wettest_X0_wetOf
theorem dX0_wettest_0 : decode cX0_wettest 0 = .ok (.iconst 0, 1) := by decide +kernel
theorem dX0_wettest_1 : decode cX0_wettest 1 = .ok (.istore_n 1, 1) := by decide +kernel
theorem dX0_wettest_2 : decode cX0_wettest 2 = .ok (.iconst 1, 1) := by decide +kernel
theorem dX0_wettest_3 : decode cX0_wettest 3 = .ok (.istore_n 2, 1) := by decide +kernel
theorem dX0_wettest_4 : decode cX0_wettest 4 = .ok (.iload_n 2, 1) := by decide +kernel
theorem dX0_wettest_5 : decode cX0_wettest 5 = .ok (.bipush 30, 2) := by decide +kernel
theorem dX0_wettest_7 : decode cX0_wettest 7 = .ok (.if_icmp .ge 24, 3) := by decide +kernel
theorem dX0_wettest_10 : decode cX0_wettest 10 = .ok (.aload_n 0, 1) := by decide +kernel
theorem dX0_wettest_11 : decode cX0_wettest 11 = .ok (.iload_n 2, 1) := by decide +kernel
theorem dX0_wettest_12 : decode cX0_wettest 12 = .ok (.invokevirtual 66, 3) := by decide +kernel
theorem dX0_wettest_15 : decode cX0_wettest 15 = .ok (.aload_n 0, 1) := by decide +kernel
theorem dX0_wettest_16 : decode cX0_wettest 16 = .ok (.iload_n 1, 1) := by decide +kernel
theorem dX0_wettest_17 : decode cX0_wettest 17 = .ok (.invokevirtual 66, 3) := by decide +kernel
theorem dX0_wettest_20 : decode cX0_wettest 20 = .ok (.if_icmp .le 5, 3) := by decide +kernel
theorem dX0_wettest_23 : decode cX0_wettest 23 = .ok (.iload_n 2, 1) := by decide +kernel
theorem dX0_wettest_24 : decode cX0_wettest 24 = .ok (.istore_n 1, 1) := by decide +kernel
theorem dX0_wettest_25 : decode cX0_wettest 25 = .ok (.iinc 2 1, 3) := by decide +kernel
theorem dX0_wettest_28 : decode cX0_wettest 28 = .ok (.goto (-24), 3) := by decide +kernel
theorem dX0_wettest_31 : decode cX0_wettest 31 = .ok (.iload_n 1, 1) := by decide +kernel
theorem dX0_wettest_32 : decode cX0_wettest 32 = .ok (.ireturn, 1) := by decide +kernel
set_option maxRecDepth 20000 in
theorem ggX0_wettestRow_X0_wetInRow : GoodIn wsX0_wettestRow wsX0_wetInRow := goodIn_r _ [5, 6, 7, 8, 4, 9, 10, 11, 12, 13, 14, 15, 16, 17, 18, 19, 20, 21] (by decide +kernel) (by decide +kernel)
set_option maxRecDepth 20000 in
theorem gX0_wettestRow_X0_wetInRow : GoodIn wsX0_wettestRow (wsV RX0 101 RX0 yX0_wetInRow wsX0_wetInRow) := goodIn_app (goodIn_of _ (by decide +kernel)) ggX0_wettestRow_X0_wetInRow
theorem dX0_wettestRow_0 : decode cX0_wettestRow 0 = .ok (.iconst 0, 1) := by decide +kernel
theorem dX0_wettestRow_1 : decode cX0_wettestRow 1 = .ok (.istore_n 1, 1) := by decide +kernel
theorem dX0_wettestRow_2 : decode cX0_wettestRow 2 = .ok (.iconst 1, 1) := by decide +kernel
theorem dX0_wettestRow_3 : decode cX0_wettestRow 3 = .ok (.istore_n 2, 1) := by decide +kernel
theorem dX0_wettestRow_4 : decode cX0_wettestRow 4 = .ok (.iload_n 2, 1) := by decide +kernel
theorem dX0_wettestRow_5 : decode cX0_wettestRow 5 = .ok (.iconst 5, 1) := by decide +kernel
theorem dX0_wettestRow_6 : decode cX0_wettestRow 6 = .ok (.if_icmp .ge 24, 3) := by decide +kernel
theorem dX0_wettestRow_9 : decode cX0_wettestRow 9 = .ok (.aload_n 0, 1) := by decide +kernel
theorem dX0_wettestRow_10 : decode cX0_wettestRow 10 = .ok (.iload_n 2, 1) := by decide +kernel
theorem dX0_wettestRow_11 : decode cX0_wettestRow 11 = .ok (.invokevirtual 101, 3) := by decide +kernel
theorem dX0_wettestRow_14 : decode cX0_wettestRow 14 = .ok (.aload_n 0, 1) := by decide +kernel
theorem dX0_wettestRow_15 : decode cX0_wettestRow 15 = .ok (.iload_n 1, 1) := by decide +kernel
theorem dX0_wettestRow_16 : decode cX0_wettestRow 16 = .ok (.invokevirtual 101, 3) := by decide +kernel
theorem dX0_wettestRow_19 : decode cX0_wettestRow 19 = .ok (.if_icmp .le 5, 3) := by decide +kernel
theorem dX0_wettestRow_22 : decode cX0_wettestRow 22 = .ok (.iload_n 2, 1) := by decide +kernel
theorem dX0_wettestRow_23 : decode cX0_wettestRow 23 = .ok (.istore_n 1, 1) := by decide +kernel
theorem dX0_wettestRow_24 : decode cX0_wettestRow 24 = .ok (.iinc 2 1, 3) := by decide +kernel
theorem dX0_wettestRow_27 : decode cX0_wettestRow 27 = .ok (.goto (-23), 3) := by decide +kernel
theorem dX0_wettestRow_30 : decode cX0_wettestRow 30 = .ok (.iload_n 1, 1) := by decide +kernel
theorem dX0_wettestRow_31 : decode cX0_wettestRow 31 = .ok (.ireturn, 1) := by decide +kernel
set_option maxRecDepth 20000 in
theorem ggX0_wetInRow_X0_wetOf : GoodIn wsX0_wetInRow wsX0_wetOf := goodIn_r _ [5, 6, 7, 8, 9, 10, 11, 12, 13, 14, 15, 16, 17] (by decide +kernel) (by decide +kernel)
set_option maxRecDepth 20000 in
theorem gX0_wetInRow_X0_wetOf : GoodIn wsX0_wetInRow (wsV RX0 66 RX0 yX0_wetOf wsX0_wetOf) := goodIn_app (goodIn_of _ (by decide +kernel)) ggX0_wetInRow_X0_wetOf
theorem dX0_wetInRow_0 : decode cX0_wetInRow 0 = .ok (.iconst 0, 1) := by decide +kernel
theorem dX0_wetInRow_1 : decode cX0_wetInRow 1 = .ok (.istore_n 2, 1) := by decide +kernel
theorem dX0_wetInRow_2 : decode cX0_wetInRow 2 = .ok (.iconst 0, 1) := by decide +kernel
theorem dX0_wetInRow_3 : decode cX0_wetInRow 3 = .ok (.istore_n 3, 1) := by decide +kernel
theorem dX0_wetInRow_4 : decode cX0_wetInRow 4 = .ok (.iload_n 3, 1) := by decide +kernel
theorem dX0_wetInRow_5 : decode cX0_wetInRow 5 = .ok (.bipush 6, 2) := by decide +kernel
theorem dX0_wetInRow_7 : decode cX0_wetInRow 7 = .ok (.if_icmp .ge 22, 3) := by decide +kernel
theorem dX0_wetInRow_10 : decode cX0_wetInRow 10 = .ok (.iload_n 2, 1) := by decide +kernel
theorem dX0_wetInRow_11 : decode cX0_wetInRow 11 = .ok (.aload_n 0, 1) := by decide +kernel
theorem dX0_wetInRow_12 : decode cX0_wetInRow 12 = .ok (.iload_n 1, 1) := by decide +kernel
theorem dX0_wetInRow_13 : decode cX0_wetInRow 13 = .ok (.bipush 6, 2) := by decide +kernel
theorem dX0_wetInRow_15 : decode cX0_wetInRow 15 = .ok (.imul, 1) := by decide +kernel
theorem dX0_wetInRow_16 : decode cX0_wetInRow 16 = .ok (.iload_n 3, 1) := by decide +kernel
theorem dX0_wetInRow_17 : decode cX0_wetInRow 17 = .ok (.iadd, 1) := by decide +kernel
theorem dX0_wetInRow_18 : decode cX0_wetInRow 18 = .ok (.invokevirtual 66, 3) := by decide +kernel
theorem dX0_wetInRow_21 : decode cX0_wetInRow 21 = .ok (.iadd, 1) := by decide +kernel
theorem dX0_wetInRow_22 : decode cX0_wetInRow 22 = .ok (.istore_n 2, 1) := by decide +kernel
theorem dX0_wetInRow_23 : decode cX0_wetInRow 23 = .ok (.iinc 3 1, 3) := by decide +kernel
theorem dX0_wetInRow_26 : decode cX0_wetInRow 26 = .ok (.goto (-22), 3) := by decide +kernel
theorem dX0_wetInRow_29 : decode cX0_wetInRow 29 = .ok (.iload_n 2, 1) := by decide +kernel
theorem dX0_wetInRow_30 : decode cX0_wetInRow 30 = .ok (.ireturn, 1) := by decide +kernel
set_option maxRecDepth 20000 in
theorem ggX0_allWet_X0_wetInRow : GoodIn wsX0_allWet wsX0_wetInRow := goodIn_r _ [5, 6, 7, 8, 4, 9, 10, 11, 12, 13, 14, 15, 16, 17, 18, 19, 20, 21] (by decide +kernel) (by decide +kernel)
set_option maxRecDepth 20000 in
theorem gX0_allWet_X0_wetInRow : GoodIn wsX0_allWet (wsV RX0 101 RX0 yX0_wetInRow wsX0_wetInRow) := goodIn_app (goodIn_of _ (by decide +kernel)) ggX0_allWet_X0_wetInRow
theorem dX0_allWet_0 : decode cX0_allWet 0 = .ok (.iconst 0, 1) := by decide +kernel
theorem dX0_allWet_1 : decode cX0_allWet 1 = .ok (.istore_n 1, 1) := by decide +kernel
theorem dX0_allWet_2 : decode cX0_allWet 2 = .ok (.iconst 0, 1) := by decide +kernel
theorem dX0_allWet_3 : decode cX0_allWet 3 = .ok (.istore_n 2, 1) := by decide +kernel
theorem dX0_allWet_4 : decode cX0_allWet 4 = .ok (.iload_n 2, 1) := by decide +kernel
theorem dX0_allWet_5 : decode cX0_allWet 5 = .ok (.iconst 5, 1) := by decide +kernel
theorem dX0_allWet_6 : decode cX0_allWet 6 = .ok (.if_icmp .ge 17, 3) := by decide +kernel
theorem dX0_allWet_9 : decode cX0_allWet 9 = .ok (.iload_n 1, 1) := by decide +kernel
theorem dX0_allWet_10 : decode cX0_allWet 10 = .ok (.aload_n 0, 1) := by decide +kernel
theorem dX0_allWet_11 : decode cX0_allWet 11 = .ok (.iload_n 2, 1) := by decide +kernel
theorem dX0_allWet_12 : decode cX0_allWet 12 = .ok (.invokevirtual 101, 3) := by decide +kernel
theorem dX0_allWet_15 : decode cX0_allWet 15 = .ok (.iadd, 1) := by decide +kernel
theorem dX0_allWet_16 : decode cX0_allWet 16 = .ok (.istore_n 1, 1) := by decide +kernel
theorem dX0_allWet_17 : decode cX0_allWet 17 = .ok (.iinc 2 1, 3) := by decide +kernel
theorem dX0_allWet_20 : decode cX0_allWet 20 = .ok (.goto (-16), 3) := by decide +kernel
theorem dX0_allWet_23 : decode cX0_allWet 23 = .ok (.iload_n 1, 1) := by decide +kernel
theorem dX0_allWet_24 : decode cX0_allWet 24 = .ok (.ireturn, 1) := by decide +kernel
set_option maxRecDepth 20000 in
theorem ggX0_allFigures_X0_figureOf : GoodIn wsX0_allFigures wsX0_figureOf := goodIn_r _ [5, 6, 7, 8, 9, 10, 11, 12, 13, 14, 15, 16, 17] (by decide +kernel) (by decide +kernel)
set_option maxRecDepth 20000 in
theorem gX0_allFigures_X0_figureOf : GoodIn wsX0_allFigures (wsV RX0 72 RX0 yX0_figureOf wsX0_figureOf) := goodIn_app (goodIn_of _ (by decide +kernel)) ggX0_allFigures_X0_figureOf
theorem dX0_allFigures_0 : decode cX0_allFigures 0 = .ok (.iconst 0, 1) := by decide +kernel
theorem dX0_allFigures_1 : decode cX0_allFigures 1 = .ok (.istore_n 1, 1) := by decide +kernel
theorem dX0_allFigures_2 : decode cX0_allFigures 2 = .ok (.iconst 0, 1) := by decide +kernel
theorem dX0_allFigures_3 : decode cX0_allFigures 3 = .ok (.istore_n 2, 1) := by decide +kernel
theorem dX0_allFigures_4 : decode cX0_allFigures 4 = .ok (.iload_n 2, 1) := by decide +kernel
theorem dX0_allFigures_5 : decode cX0_allFigures 5 = .ok (.bipush 30, 2) := by decide +kernel
theorem dX0_allFigures_7 : decode cX0_allFigures 7 = .ok (.if_icmp .ge 17, 3) := by decide +kernel
theorem dX0_allFigures_10 : decode cX0_allFigures 10 = .ok (.iload_n 1, 1) := by decide +kernel
theorem dX0_allFigures_11 : decode cX0_allFigures 11 = .ok (.aload_n 0, 1) := by decide +kernel
theorem dX0_allFigures_12 : decode cX0_allFigures 12 = .ok (.iload_n 2, 1) := by decide +kernel
theorem dX0_allFigures_13 : decode cX0_allFigures 13 = .ok (.invokevirtual 72, 3) := by decide +kernel
theorem dX0_allFigures_16 : decode cX0_allFigures 16 = .ok (.iadd, 1) := by decide +kernel
theorem dX0_allFigures_17 : decode cX0_allFigures 17 = .ok (.istore_n 1, 1) := by decide +kernel
theorem dX0_allFigures_18 : decode cX0_allFigures 18 = .ok (.iinc 2 1, 3) := by decide +kernel
theorem dX0_allFigures_21 : decode cX0_allFigures 21 = .ok (.goto (-17), 3) := by decide +kernel
theorem dX0_allFigures_24 : decode cX0_allFigures 24 = .ok (.iload_n 1, 1) := by decide +kernel
theorem dX0_allFigures_25 : decode cX0_allFigures 25 = .ok (.ireturn, 1) := by decide +kernel
set_option maxRecDepth 20000 in
theorem ggX0_allHelped_X0_helpedOf : GoodIn wsX0_allHelped wsX0_helpedOf := goodIn_r _ [6, 7, 8, 9, 10, 5, 11, 1, 12, 13, 14, 15, 16, 17, 18, 19] (by decide +kernel) (by decide +kernel)
set_option maxRecDepth 20000 in
theorem gX0_allHelped_X0_helpedOf : GoodIn wsX0_allHelped (wsV RX0 63 RX0 yX0_helpedOf wsX0_helpedOf) := goodIn_app (goodIn_of _ (by decide +kernel)) ggX0_allHelped_X0_helpedOf
theorem dX0_allHelped_0 : decode cX0_allHelped 0 = .ok (.iconst 0, 1) := by decide +kernel
theorem dX0_allHelped_1 : decode cX0_allHelped 1 = .ok (.istore_n 1, 1) := by decide +kernel
theorem dX0_allHelped_2 : decode cX0_allHelped 2 = .ok (.iconst 0, 1) := by decide +kernel
theorem dX0_allHelped_3 : decode cX0_allHelped 3 = .ok (.istore_n 2, 1) := by decide +kernel
theorem dX0_allHelped_4 : decode cX0_allHelped 4 = .ok (.iload_n 2, 1) := by decide +kernel
theorem dX0_allHelped_5 : decode cX0_allHelped 5 = .ok (.aload_n 0, 1) := by decide +kernel
theorem dX0_allHelped_6 : decode cX0_allHelped 6 = .ok (.getfield 42, 3) := by decide +kernel
theorem dX0_allHelped_9 : decode cX0_allHelped 9 = .ok (.if_icmp .ge 17, 3) := by decide +kernel
theorem dX0_allHelped_12 : decode cX0_allHelped 12 = .ok (.iload_n 1, 1) := by decide +kernel
theorem dX0_allHelped_13 : decode cX0_allHelped 13 = .ok (.aload_n 0, 1) := by decide +kernel
theorem dX0_allHelped_14 : decode cX0_allHelped 14 = .ok (.iload_n 2, 1) := by decide +kernel
theorem dX0_allHelped_15 : decode cX0_allHelped 15 = .ok (.invokevirtual 63, 3) := by decide +kernel
theorem dX0_allHelped_18 : decode cX0_allHelped 18 = .ok (.iadd, 1) := by decide +kernel
theorem dX0_allHelped_19 : decode cX0_allHelped 19 = .ok (.istore_n 1, 1) := by decide +kernel
theorem dX0_allHelped_20 : decode cX0_allHelped 20 = .ok (.iinc 2 1, 3) := by decide +kernel
theorem dX0_allHelped_23 : decode cX0_allHelped 23 = .ok (.goto (-19), 3) := by decide +kernel
theorem dX0_allHelped_26 : decode cX0_allHelped 26 = .ok (.iload_n 1, 1) := by decide +kernel
theorem dX0_allHelped_27 : decode cX0_allHelped 27 = .ok (.ireturn, 1) := by decide +kernel
set_option maxRecDepth 20000 in
theorem ggX0_mostHelped_X0_helpedOf : GoodIn wsX0_mostHelped wsX0_helpedOf := goodIn_r _ [6, 7, 8, 9, 10, 5, 11, 1, 12, 13, 14, 15, 16, 17, 18, 19] (by decide +kernel) (by decide +kernel)
set_option maxRecDepth 20000 in
theorem gX0_mostHelped_X0_helpedOf : GoodIn wsX0_mostHelped (wsV RX0 63 RX0 yX0_helpedOf wsX0_helpedOf) := goodIn_app (goodIn_of _ (by decide +kernel)) ggX0_mostHelped_X0_helpedOf
theorem dX0_mostHelped_0 : decode cX0_mostHelped 0 = .ok (.bipush (-9), 2) := by decide +kernel
theorem dX0_mostHelped_2 : decode cX0_mostHelped 2 = .ok (.istore_n 1, 1) := by decide +kernel
theorem dX0_mostHelped_3 : decode cX0_mostHelped 3 = .ok (.iconst 0, 1) := by decide +kernel
theorem dX0_mostHelped_4 : decode cX0_mostHelped 4 = .ok (.istore_n 2, 1) := by decide +kernel
theorem dX0_mostHelped_5 : decode cX0_mostHelped 5 = .ok (.iload_n 2, 1) := by decide +kernel
theorem dX0_mostHelped_6 : decode cX0_mostHelped 6 = .ok (.aload_n 0, 1) := by decide +kernel
theorem dX0_mostHelped_7 : decode cX0_mostHelped 7 = .ok (.getfield 42, 3) := by decide +kernel
theorem dX0_mostHelped_10 : decode cX0_mostHelped 10 = .ok (.if_icmp .ge 28, 3) := by decide +kernel
theorem dX0_mostHelped_13 : decode cX0_mostHelped 13 = .ok (.iload_n 1, 1) := by decide +kernel
theorem dX0_mostHelped_14 : decode cX0_mostHelped 14 = .ok (.ifCond .lt 16, 3) := by decide +kernel
theorem dX0_mostHelped_17 : decode cX0_mostHelped 17 = .ok (.aload_n 0, 1) := by decide +kernel
theorem dX0_mostHelped_18 : decode cX0_mostHelped 18 = .ok (.iload_n 2, 1) := by decide +kernel
theorem dX0_mostHelped_19 : decode cX0_mostHelped 19 = .ok (.invokevirtual 63, 3) := by decide +kernel
theorem dX0_mostHelped_22 : decode cX0_mostHelped 22 = .ok (.aload_n 0, 1) := by decide +kernel
theorem dX0_mostHelped_23 : decode cX0_mostHelped 23 = .ok (.iload_n 1, 1) := by decide +kernel
theorem dX0_mostHelped_24 : decode cX0_mostHelped 24 = .ok (.invokevirtual 63, 3) := by decide +kernel
theorem dX0_mostHelped_27 : decode cX0_mostHelped 27 = .ok (.if_icmp .le 5, 3) := by decide +kernel
theorem dX0_mostHelped_30 : decode cX0_mostHelped 30 = .ok (.iload_n 2, 1) := by decide +kernel
theorem dX0_mostHelped_31 : decode cX0_mostHelped 31 = .ok (.istore_n 1, 1) := by decide +kernel
theorem dX0_mostHelped_32 : decode cX0_mostHelped 32 = .ok (.iinc 2 1, 3) := by decide +kernel
theorem dX0_mostHelped_35 : decode cX0_mostHelped 35 = .ok (.goto (-30), 3) := by decide +kernel
theorem dX0_mostHelped_38 : decode cX0_mostHelped 38 = .ok (.iload_n 1, 1) := by decide +kernel
theorem dX0_mostHelped_39 : decode cX0_mostHelped 39 = .ok (.ireturn, 1) := by decide +kernel
set_option maxRecDepth 20000 in
theorem ggX0_together_X0_placeOf : GoodIn wsX0_together wsX0_placeOf := goodIn_r _ [6, 7, 8, 9, 10, 5, 11, 1, 12, 13, 14, 15, 16, 17, 18, 19] (by decide +kernel) (by decide +kernel)
set_option maxRecDepth 20000 in
theorem gX0_together_X0_placeOf : GoodIn wsX0_together (wsV RX0 56 RX0 yX0_placeOf wsX0_placeOf) := goodIn_app (goodIn_of _ (by decide +kernel)) ggX0_together_X0_placeOf
theorem dX0_together_0 : decode cX0_together 0 = .ok (.iconst 0, 1) := by decide +kernel
theorem dX0_together_1 : decode cX0_together 1 = .ok (.istore_n 1, 1) := by decide +kernel
theorem dX0_together_2 : decode cX0_together 2 = .ok (.iconst 0, 1) := by decide +kernel
theorem dX0_together_3 : decode cX0_together 3 = .ok (.istore_n 2, 1) := by decide +kernel
theorem dX0_together_4 : decode cX0_together 4 = .ok (.iconst 0, 1) := by decide +kernel
theorem dX0_together_5 : decode cX0_together 5 = .ok (.istore_n 3, 1) := by decide +kernel
theorem dX0_together_6 : decode cX0_together 6 = .ok (.iload_n 3, 1) := by decide +kernel
theorem dX0_together_7 : decode cX0_together 7 = .ok (.aload_n 0, 1) := by decide +kernel
theorem dX0_together_8 : decode cX0_together 8 = .ok (.getfield 42, 3) := by decide +kernel
theorem dX0_together_11 : decode cX0_together 11 = .ok (.if_icmp .ge 30, 3) := by decide +kernel
theorem dX0_together_14 : decode cX0_together 14 = .ok (.iconst 1, 1) := by decide +kernel
theorem dX0_together_15 : decode cX0_together 15 = .ok (.aload_n 0, 1) := by decide +kernel
theorem dX0_together_16 : decode cX0_together 16 = .ok (.iload_n 3, 1) := by decide +kernel
theorem dX0_together_17 : decode cX0_together 17 = .ok (.invokevirtual 56, 3) := by decide +kernel
theorem dX0_together_20 : decode cX0_together 20 = .ok (.ishl, 1) := by decide +kernel
theorem dX0_together_21 : decode cX0_together 21 = .ok (.istore 4, 2) := by decide +kernel
theorem dX0_together_23 : decode cX0_together 23 = .ok (.iload_n 2, 1) := by decide +kernel
theorem dX0_together_24 : decode cX0_together 24 = .ok (.iload_n 1, 1) := by decide +kernel
theorem dX0_together_25 : decode cX0_together 25 = .ok (.iload 4, 2) := by decide +kernel
theorem dX0_together_27 : decode cX0_together 27 = .ok (.iand, 1) := by decide +kernel
theorem dX0_together_28 : decode cX0_together 28 = .ok (.ior, 1) := by decide +kernel
theorem dX0_together_29 : decode cX0_together 29 = .ok (.istore_n 2, 1) := by decide +kernel
theorem dX0_together_30 : decode cX0_together 30 = .ok (.iload_n 1, 1) := by decide +kernel
theorem dX0_together_31 : decode cX0_together 31 = .ok (.iload 4, 2) := by decide +kernel
theorem dX0_together_33 : decode cX0_together 33 = .ok (.ior, 1) := by decide +kernel
theorem dX0_together_34 : decode cX0_together 34 = .ok (.istore_n 1, 1) := by decide +kernel
theorem dX0_together_35 : decode cX0_together 35 = .ok (.iinc 3 1, 3) := by decide +kernel
theorem dX0_together_38 : decode cX0_together 38 = .ok (.goto (-32), 3) := by decide +kernel
theorem dX0_together_41 : decode cX0_together 41 = .ok (.iload_n 2, 1) := by decide +kernel
theorem dX0_together_42 : decode cX0_together 42 = .ok (.ireturn, 1) := by decide +kernel
set_option maxRecDepth 20000 in
theorem ggX0_atEdges_X0_placeOf : GoodIn wsX0_atEdges wsX0_placeOf := goodIn_r _ [6, 7, 8, 9, 10, 5, 11, 1, 18, 19, 20, 21, 22, 23, 24, 25] (by decide +kernel) (by decide +kernel)
set_option maxRecDepth 20000 in
theorem gX0_atEdges_X0_placeOf : GoodIn wsX0_atEdges (wsV RX0 56 RX0 yX0_placeOf wsX0_placeOf) := goodIn_app (goodIn_of _ (by decide +kernel)) ggX0_atEdges_X0_placeOf
set_option maxRecDepth 20000 in
theorem ggX0_atEdges_X0_isAtEdge : GoodIn wsX0_atEdges wsX0_isAtEdge := goodIn_r _ [14, 15, 16, 17] (by decide +kernel) (by decide +kernel)
set_option maxRecDepth 20000 in
theorem gX0_atEdges_X0_isAtEdge : GoodIn wsX0_atEdges (va_wsS RX0 104 yX0_isAtEdge wsX0_isAtEdge) := goodIn_app (goodIn_of _ (by decide +kernel)) ggX0_atEdges_X0_isAtEdge
theorem dX0_atEdges_0 : decode cX0_atEdges 0 = .ok (.iconst 0, 1) := by decide +kernel
theorem dX0_atEdges_1 : decode cX0_atEdges 1 = .ok (.istore_n 1, 1) := by decide +kernel
theorem dX0_atEdges_2 : decode cX0_atEdges 2 = .ok (.iconst 0, 1) := by decide +kernel
theorem dX0_atEdges_3 : decode cX0_atEdges 3 = .ok (.istore_n 2, 1) := by decide +kernel
theorem dX0_atEdges_4 : decode cX0_atEdges 4 = .ok (.iload_n 2, 1) := by decide +kernel
theorem dX0_atEdges_5 : decode cX0_atEdges 5 = .ok (.aload_n 0, 1) := by decide +kernel
theorem dX0_atEdges_6 : decode cX0_atEdges 6 = .ok (.getfield 42, 3) := by decide +kernel
theorem dX0_atEdges_9 : decode cX0_atEdges 9 = .ok (.if_icmp .ge 23, 3) := by decide +kernel
theorem dX0_atEdges_12 : decode cX0_atEdges 12 = .ok (.aload_n 0, 1) := by decide +kernel
theorem dX0_atEdges_13 : decode cX0_atEdges 13 = .ok (.iload_n 2, 1) := by decide +kernel
theorem dX0_atEdges_14 : decode cX0_atEdges 14 = .ok (.invokevirtual 56, 3) := by decide +kernel
theorem dX0_atEdges_17 : decode cX0_atEdges 17 = .ok (.invokestatic 104, 3) := by decide +kernel
theorem dX0_atEdges_20 : decode cX0_atEdges 20 = .ok (.ifCond .eq 6, 3) := by decide +kernel
theorem dX0_atEdges_23 : decode cX0_atEdges 23 = .ok (.iinc 1 1, 3) := by decide +kernel
theorem dX0_atEdges_26 : decode cX0_atEdges 26 = .ok (.iinc 2 1, 3) := by decide +kernel
theorem dX0_atEdges_29 : decode cX0_atEdges 29 = .ok (.goto (-25), 3) := by decide +kernel
theorem dX0_atEdges_32 : decode cX0_atEdges 32 = .ok (.iload_n 1, 1) := by decide +kernel
theorem dX0_atEdges_33 : decode cX0_atEdges 33 = .ok (.ireturn, 1) := by decide +kernel
set_option maxRecDepth 20000 in
theorem ggX0_isAtEdge_X1_nodeThatWay : GoodIn wsX0_isAtEdge wsX1_nodeThatWay := goodIn_r _ [3] (by decide +kernel) (by decide +kernel)
set_option maxRecDepth 20000 in
theorem gX0_isAtEdge_X1_nodeThatWay_n83 : GoodIn wsX0_isAtEdge (wsX1_nodeThatWay) := ggX0_isAtEdge_X1_nodeThatWay
theorem dX0_isAtEdge_0 : decode cX0_isAtEdge 0 = .ok (.iconst 0, 1) := by decide +kernel
theorem dX0_isAtEdge_1 : decode cX0_isAtEdge 1 = .ok (.istore_n 1, 1) := by decide +kernel
theorem dX0_isAtEdge_2 : decode cX0_isAtEdge 2 = .ok (.iload_n 1, 1) := by decide +kernel
theorem dX0_isAtEdge_3 : decode cX0_isAtEdge 3 = .ok (.iconst 4, 1) := by decide +kernel
theorem dX0_isAtEdge_4 : decode cX0_isAtEdge 4 = .ok (.if_icmp .ge 19, 3) := by decide +kernel
theorem dX0_isAtEdge_7 : decode cX0_isAtEdge 7 = .ok (.iload_n 0, 1) := by decide +kernel
theorem dX0_isAtEdge_8 : decode cX0_isAtEdge 8 = .ok (.iload_n 1, 1) := by decide +kernel
theorem dX0_isAtEdge_9 : decode cX0_isAtEdge 9 = .ok (.invokestatic 83, 3) := by decide +kernel
theorem dX0_isAtEdge_12 : decode cX0_isAtEdge 12 = .ok (.ifCond .ge 5, 3) := by decide +kernel
theorem dX0_isAtEdge_15 : decode cX0_isAtEdge 15 = .ok (.iconst 1, 1) := by decide +kernel
theorem dX0_isAtEdge_16 : decode cX0_isAtEdge 16 = .ok (.ireturn, 1) := by decide +kernel
theorem dX0_isAtEdge_17 : decode cX0_isAtEdge 17 = .ok (.iinc 1 1, 3) := by decide +kernel
theorem dX0_isAtEdge_20 : decode cX0_isAtEdge 20 = .ok (.goto (-18), 3) := by decide +kernel
theorem dX0_isAtEdge_23 : decode cX0_isAtEdge 23 = .ok (.iconst 0, 1) := by decide +kernel
theorem dX0_isAtEdge_24 : decode cX0_isAtEdge 24 = .ok (.ireturn, 1) := by decide +kernel
set_option maxRecDepth 20000 in
theorem ggX0_stuckPeople_X0_placeOf : GoodIn wsX0_stuckPeople wsX0_placeOf := goodIn_r _ [6, 7, 8, 9, 10, 5, 11, 1, 20, 21, 22, 23, 24, 25, 26, 27] (by decide +kernel) (by decide +kernel)
set_option maxRecDepth 20000 in
theorem gX0_stuckPeople_X0_placeOf : GoodIn wsX0_stuckPeople (wsV RX0 56 RX0 yX0_placeOf wsX0_placeOf) := goodIn_app (goodIn_of _ (by decide +kernel)) ggX0_stuckPeople_X0_placeOf
set_option maxRecDepth 20000 in
theorem ggX0_stuckPeople_X0_wetOf : GoodIn wsX0_stuckPeople wsX0_wetOf := goodIn_r _ [15, 16, 17, 18, 19, 20, 21, 22, 23, 24, 25, 26, 27] (by decide +kernel) (by decide +kernel)
set_option maxRecDepth 20000 in
theorem gX0_stuckPeople_X0_wetOf : GoodIn wsX0_stuckPeople (wsV RX0 66 RX0 yX0_wetOf wsX0_wetOf) := goodIn_app (goodIn_of _ (by decide +kernel)) ggX0_stuckPeople_X0_wetOf
theorem dX0_stuckPeople_0 : decode cX0_stuckPeople 0 = .ok (.iconst 0, 1) := by decide +kernel
theorem dX0_stuckPeople_1 : decode cX0_stuckPeople 1 = .ok (.istore_n 1, 1) := by decide +kernel
theorem dX0_stuckPeople_2 : decode cX0_stuckPeople 2 = .ok (.iconst 0, 1) := by decide +kernel
theorem dX0_stuckPeople_3 : decode cX0_stuckPeople 3 = .ok (.istore_n 2, 1) := by decide +kernel
theorem dX0_stuckPeople_4 : decode cX0_stuckPeople 4 = .ok (.iload_n 2, 1) := by decide +kernel
theorem dX0_stuckPeople_5 : decode cX0_stuckPeople 5 = .ok (.aload_n 0, 1) := by decide +kernel
theorem dX0_stuckPeople_6 : decode cX0_stuckPeople 6 = .ok (.getfield 42, 3) := by decide +kernel
theorem dX0_stuckPeople_9 : decode cX0_stuckPeople 9 = .ok (.if_icmp .ge 24, 3) := by decide +kernel
theorem dX0_stuckPeople_12 : decode cX0_stuckPeople 12 = .ok (.aload_n 0, 1) := by decide +kernel
theorem dX0_stuckPeople_13 : decode cX0_stuckPeople 13 = .ok (.aload_n 0, 1) := by decide +kernel
theorem dX0_stuckPeople_14 : decode cX0_stuckPeople 14 = .ok (.iload_n 2, 1) := by decide +kernel
theorem dX0_stuckPeople_15 : decode cX0_stuckPeople 15 = .ok (.invokevirtual 56, 3) := by decide +kernel
theorem dX0_stuckPeople_18 : decode cX0_stuckPeople 18 = .ok (.invokevirtual 66, 3) := by decide +kernel
theorem dX0_stuckPeople_21 : decode cX0_stuckPeople 21 = .ok (.ifCond .ne 6, 3) := by decide +kernel
theorem dX0_stuckPeople_24 : decode cX0_stuckPeople 24 = .ok (.iinc 1 1, 3) := by decide +kernel
theorem dX0_stuckPeople_27 : decode cX0_stuckPeople 27 = .ok (.iinc 2 1, 3) := by decide +kernel
theorem dX0_stuckPeople_30 : decode cX0_stuckPeople 30 = .ok (.goto (-26), 3) := by decide +kernel
theorem dX0_stuckPeople_33 : decode cX0_stuckPeople 33 = .ok (.iload_n 1, 1) := by decide +kernel
theorem dX0_stuckPeople_34 : decode cX0_stuckPeople 34 = .ok (.ireturn, 1) := by decide +kernel
set_option maxRecDepth 20000 in
theorem ggX0_nearest_X0_placeOf : GoodIn wsX0_nearest wsX0_placeOf := goodIn_r _ [6, 7, 8, 9, 10, 5, 11, 1, 19, 20, 21, 22, 23, 24, 25, 26] (by decide +kernel) (by decide +kernel)
set_option maxRecDepth 20000 in
theorem gX0_nearest_X0_placeOf : GoodIn wsX0_nearest (wsV RX0 56 RX0 yX0_placeOf wsX0_placeOf) := goodIn_app (goodIn_of _ (by decide +kernel)) ggX0_nearest_X0_placeOf
set_option maxRecDepth 20000 in
theorem ggX0_nearest_X0_distance : GoodIn wsX0_nearest wsX0_distance := goodIn_r _ [14, 15, 16, 17, 18] (by decide +kernel) (by decide +kernel)
set_option maxRecDepth 20000 in
theorem gX0_nearest_X0_distance : GoodIn wsX0_nearest (va_wsS RX0 107 yX0_distance wsX0_distance) := goodIn_app (goodIn_of _ (by decide +kernel)) ggX0_nearest_X0_distance
theorem dX0_nearest_0 : decode cX0_nearest 0 = .ok (.bipush (-9), 2) := by decide +kernel
theorem dX0_nearest_2 : decode cX0_nearest 2 = .ok (.istore_n 2, 1) := by decide +kernel
theorem dX0_nearest_3 : decode cX0_nearest 3 = .ok (.bipush 30, 2) := by decide +kernel
theorem dX0_nearest_5 : decode cX0_nearest 5 = .ok (.istore_n 3, 1) := by decide +kernel
theorem dX0_nearest_6 : decode cX0_nearest 6 = .ok (.iconst 0, 1) := by decide +kernel
theorem dX0_nearest_7 : decode cX0_nearest 7 = .ok (.istore 4, 2) := by decide +kernel
theorem dX0_nearest_9 : decode cX0_nearest 9 = .ok (.iload 4, 2) := by decide +kernel
theorem dX0_nearest_11 : decode cX0_nearest 11 = .ok (.aload_n 0, 1) := by decide +kernel
theorem dX0_nearest_12 : decode cX0_nearest 12 = .ok (.getfield 42, 3) := by decide +kernel
theorem dX0_nearest_15 : decode cX0_nearest 15 = .ok (.if_icmp .ge 33, 3) := by decide +kernel
theorem dX0_nearest_18 : decode cX0_nearest 18 = .ok (.aload_n 0, 1) := by decide +kernel
theorem dX0_nearest_19 : decode cX0_nearest 19 = .ok (.iload 4, 2) := by decide +kernel
theorem dX0_nearest_21 : decode cX0_nearest 21 = .ok (.invokevirtual 56, 3) := by decide +kernel
theorem dX0_nearest_24 : decode cX0_nearest 24 = .ok (.iload_n 1, 1) := by decide +kernel
theorem dX0_nearest_25 : decode cX0_nearest 25 = .ok (.invokestatic 107, 3) := by decide +kernel
theorem dX0_nearest_28 : decode cX0_nearest 28 = .ok (.istore 5, 2) := by decide +kernel
theorem dX0_nearest_30 : decode cX0_nearest 30 = .ok (.iload 5, 2) := by decide +kernel
theorem dX0_nearest_32 : decode cX0_nearest 32 = .ok (.iload_n 3, 1) := by decide +kernel
theorem dX0_nearest_33 : decode cX0_nearest 33 = .ok (.if_icmp .ge 9, 3) := by decide +kernel
theorem dX0_nearest_36 : decode cX0_nearest 36 = .ok (.iload 4, 2) := by decide +kernel
theorem dX0_nearest_38 : decode cX0_nearest 38 = .ok (.istore_n 2, 1) := by decide +kernel
theorem dX0_nearest_39 : decode cX0_nearest 39 = .ok (.iload 5, 2) := by decide +kernel
theorem dX0_nearest_41 : decode cX0_nearest 41 = .ok (.istore_n 3, 1) := by decide +kernel
theorem dX0_nearest_42 : decode cX0_nearest 42 = .ok (.iinc 4 1, 3) := by decide +kernel
theorem dX0_nearest_45 : decode cX0_nearest 45 = .ok (.goto (-36), 3) := by decide +kernel
theorem dX0_nearest_48 : decode cX0_nearest 48 = .ok (.iload_n 2, 1) := by decide +kernel
theorem dX0_nearest_49 : decode cX0_nearest 49 = .ok (.ireturn, 1) := by decide +kernel
theorem dX0_distance_0 : decode cX0_distance 0 = .ok (.iload_n 0, 1) := by decide +kernel
theorem dX0_distance_1 : decode cX0_distance 1 = .ok (.bipush 6, 2) := by decide +kernel
theorem dX0_distance_3 : decode cX0_distance 3 = .ok (.idiv, 1) := by decide +kernel
theorem dX0_distance_4 : decode cX0_distance 4 = .ok (.iload_n 1, 1) := by decide +kernel
theorem dX0_distance_5 : decode cX0_distance 5 = .ok (.bipush 6, 2) := by decide +kernel
theorem dX0_distance_7 : decode cX0_distance 7 = .ok (.idiv, 1) := by decide +kernel
theorem dX0_distance_8 : decode cX0_distance 8 = .ok (.isub, 1) := by decide +kernel
theorem dX0_distance_9 : decode cX0_distance 9 = .ok (.invokestatic 110, 3) := by decide +kernel
theorem dX0_distance_12 : decode cX0_distance 12 = .ok (.istore_n 2, 1) := by decide +kernel
theorem dX0_distance_13 : decode cX0_distance 13 = .ok (.iload_n 0, 1) := by decide +kernel
theorem dX0_distance_14 : decode cX0_distance 14 = .ok (.bipush 6, 2) := by decide +kernel
theorem dX0_distance_16 : decode cX0_distance 16 = .ok (.irem, 1) := by decide +kernel
theorem dX0_distance_17 : decode cX0_distance 17 = .ok (.iload_n 1, 1) := by decide +kernel
theorem dX0_distance_18 : decode cX0_distance 18 = .ok (.bipush 6, 2) := by decide +kernel
theorem dX0_distance_20 : decode cX0_distance 20 = .ok (.irem, 1) := by decide +kernel
theorem dX0_distance_21 : decode cX0_distance 21 = .ok (.isub, 1) := by decide +kernel
theorem dX0_distance_22 : decode cX0_distance 22 = .ok (.invokestatic 110, 3) := by decide +kernel
theorem dX0_distance_25 : decode cX0_distance 25 = .ok (.istore_n 3, 1) := by decide +kernel
theorem dX0_distance_26 : decode cX0_distance 26 = .ok (.iload_n 2, 1) := by decide +kernel
theorem dX0_distance_27 : decode cX0_distance 27 = .ok (.iload_n 3, 1) := by decide +kernel
theorem dX0_distance_28 : decode cX0_distance 28 = .ok (.iadd, 1) := by decide +kernel
theorem dX0_distance_29 : decode cX0_distance 29 = .ok (.ireturn, 1) := by decide +kernel
