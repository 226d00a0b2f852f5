theorem dX7_init_0 : decode cX7_init 0 = .ok (.aload_n 0, 1) := by decide +kernel
theorem dX7_init_1 : decode cX7_init 1 = .ok (.invokespecial 1, 3) := by decide +kernel
theorem dX7_init_4 : decode cX7_init 4 = .ok (.aload_n 0, 1) := by decide +kernel
theorem dX7_init_5 : decode cX7_init 5 = .ok (.bipush 10, 2) := by decide +kernel
theorem dX7_init_7 : decode cX7_init 7 = .ok (.anewarray 9, 3) := by decide +kernel
theorem dX7_init_10 : decode cX7_init 10 = .ok (.putfield 11, 3) := by decide +kernel
theorem dX7_init_13 : decode cX7_init 13 = .ok (.aload_n 0, 1) := by decide +kernel
theorem dX7_init_14 : decode cX7_init 14 = .ok (.bipush 16, 2) := by decide +kernel
theorem dX7_init_16 : decode cX7_init 16 = .ok (.anewarray 15, 3) := by decide +kernel
theorem dX7_init_19 : decode cX7_init 19 = .ok (.putfield 17, 3) := by decide +kernel
theorem dX7_init_22 : decode cX7_init 22 = .ok (.aload_n 0, 1) := by decide +kernel
theorem dX7_init_23 : decode cX7_init 23 = .ok (.bipush 8, 2) := by decide +kernel
theorem dX7_init_25 : decode cX7_init 25 = .ok (.anewarray 21, 3) := by decide +kernel
theorem dX7_init_28 : decode cX7_init 28 = .ok (.putfield 23, 3) := by decide +kernel
theorem dX7_init_31 : decode cX7_init 31 = .ok (.aload_n 0, 1) := by decide +kernel
theorem dX7_init_32 : decode cX7_init 32 = .ok (.bipush 12, 2) := by decide +kernel
theorem dX7_init_34 : decode cX7_init 34 = .ok (.anewarray 27, 3) := by decide +kernel
theorem dX7_init_37 : decode cX7_init 37 = .ok (.putfield 29, 3) := by decide +kernel
theorem dX7_init_40 : decode cX7_init 40 = .ok (.aload_n 0, 1) := by decide +kernel
theorem dX7_init_41 : decode cX7_init 41 = .ok (.bipush 8, 2) := by decide +kernel
theorem dX7_init_43 : decode cX7_init 43 = .ok (.anewarray 33, 3) := by decide +kernel
theorem dX7_init_46 : decode cX7_init 46 = .ok (.putfield 35, 3) := by decide +kernel
theorem dX7_init_49 : decode cX7_init 49 = .ok (.aload_n 0, 1) := by decide +kernel
theorem dX7_init_50 : decode cX7_init 50 = .ok (.iconst 0, 1) := by decide +kernel
theorem dX7_init_51 : decode cX7_init 51 = .ok (.putfield 39, 3) := by decide +kernel
theorem dX7_init_54 : decode cX7_init 54 = .ok (.aload_n 0, 1) := by decide +kernel
theorem dX7_init_55 : decode cX7_init 55 = .ok (.iconst 0, 1) := by decide +kernel
theorem dX7_init_56 : decode cX7_init 56 = .ok (.putfield 43, 3) := by decide +kernel
theorem dX7_init_59 : decode cX7_init 59 = .ok (.aload_n 0, 1) := by decide +kernel
theorem dX7_init_60 : decode cX7_init 60 = .ok (.iconst 0, 1) := by decide +kernel
theorem dX7_init_61 : decode cX7_init 61 = .ok (.putfield 46, 3) := by decide +kernel
theorem dX7_init_64 : decode cX7_init 64 = .ok (.aload_n 0, 1) := by decide +kernel
theorem dX7_init_65 : decode cX7_init 65 = .ok (.iconst 0, 1) := by decide +kernel
theorem dX7_init_66 : decode cX7_init 66 = .ok (.putfield 49, 3) := by decide +kernel
theorem dX7_init_69 : decode cX7_init 69 = .ok (.aload_n 0, 1) := by decide +kernel
theorem dX7_init_70 : decode cX7_init 70 = .ok (.iconst 0, 1) := by decide +kernel
theorem dX7_init_71 : decode cX7_init 71 = .ok (.putfield 52, 3) := by decide +kernel
theorem dX7_init_74 : decode cX7_init 74 = .ok (.aload_n 0, 1) := by decide +kernel
theorem dX7_init_75 : decode cX7_init 75 = .ok (.bipush 8, 2) := by decide +kernel
theorem dX7_init_77 : decode cX7_init 77 = .ok (.newarray .int, 2) := by decide +kernel
theorem dX7_init_79 : decode cX7_init 79 = .ok (.putfield 55, 3) := by decide +kernel
theorem dX7_init_82 : decode cX7_init 82 = .ok (.aload_n 0, 1) := by decide +kernel
theorem dX7_init_83 : decode cX7_init 83 = .ok (.iconst 0, 1) := by decide +kernel
theorem dX7_init_84 : decode cX7_init 84 = .ok (.putfield 59, 3) := by decide +kernel
theorem dX7_init_87 : decode cX7_init 87 = .ok (.return_, 1) := by decide +kernel
set_option maxRecDepth 20000 in
theorem ggX7_wheel_X2_isNumber : GoodIn wsX7_wheel wsX2_isNumber := goodIn_r _ [9, 10, 11, 8, 12, 13, 14, 15, 16, 17, 18, 19, 20, 21, 22] (by decide +kernel) (by decide +kernel)
set_option maxRecDepth 20000 in
theorem gX7_wheel_X2_isNumber : GoodIn wsX7_wheel (va_wsS RX7 62 yX2_isNumber wsX2_isNumber) := goodIn_app (goodIn_of _ (by decide +kernel)) ggX7_wheel_X2_isNumber
set_option maxRecDepth 20000 in
theorem ggX7_wheel_X7_refuse : GoodIn wsX7_wheel wsX7_refuse := goodIn_r _ [27, 28, 29, 102, 103, 104, 105, 106, 107, 108, 109, 110, 111, 112, 113] (by decide +kernel) (by decide +kernel)
set_option maxRecDepth 20000 in
theorem gX7_wheel_X7_refuse : GoodIn wsX7_wheel (wsV RX7 68 RX7 yX7_refuse wsX7_refuse) := goodIn_app (goodIn_of _ (by decide +kernel)) ggX7_wheel_X7_refuse
set_option maxRecDepth 20000 in
theorem ggX7_wheel_X0_cast : GoodIn wsX7_wheel wsX0_cast := goodIn_r _ [33, 34, 35, 32, 36, 37, 38, 8, 39, 40, 41, 42, 43, 44, 18, 19, 20, 21, 22, 45, 46, 47, 48, 49, 50, 51, 52, 53, 54, 55, 56, 57, 58, 59, 60, 61, 62, 63, 64, 65, 66, 13, 14, 15, 16, 17, 67, 68, 69, 10, 11, 12, 70, 71, 72, 73, 74, 75, 76, 77, 78, 79, 80, 81, 82, 83, 84, 85] (by decide +kernel) (by decide +kernel)
set_option maxRecDepth 20000 in
theorem gX7_wheel_X0_cast : GoodIn wsX7_wheel (va_wsS RX7 72 yX0_cast wsX0_cast) := goodIn_app (goodIn_of _ (by decide +kernel)) ggX7_wheel_X0_cast
set_option maxRecDepth 20000 in
theorem ggX7_wheel_X2_isZero : GoodIn wsX7_wheel wsX2_isZero := goodIn_r _ [88, 10, 11, 8, 12, 13, 14, 15, 16, 17] (by decide +kernel) (by decide +kernel)
set_option maxRecDepth 20000 in
theorem gX7_wheel_X2_isZero : GoodIn wsX7_wheel (va_wsS RX7 78 yX2_isZero wsX2_isZero) := goodIn_app (goodIn_of _ (by decide +kernel)) ggX7_wheel_X2_isZero
set_option maxRecDepth 20000 in
theorem ggX7_wheel_X6_init : GoodIn wsX7_wheel wsX6_init := goodIn_r _ [91, 92, 93, 94, 95, 96, 97, 114, 115, 116] (by decide +kernel) (by decide +kernel)
set_option maxRecDepth 20000 in
theorem gX7_wheel_X6_init : GoodIn wsX7_wheel (wsX6_init) := ggX7_wheel_X6_init
set_option maxRecDepth 20000 in
theorem ggX7_wheel_X7_answer : GoodIn wsX7_wheel wsX7_answer := goodIn_r _ [101, 28, 102, 103, 104, 105, 106, 107, 108, 109, 110, 111, 112, 113] (by decide +kernel) (by decide +kernel)
set_option maxRecDepth 20000 in
theorem gX7_wheel_X7_answer : GoodIn wsX7_wheel (wsV RX7 84 RX7 yX7_answer wsX7_answer) := goodIn_app (goodIn_of _ (by decide +kernel)) ggX7_wheel_X7_answer
theorem dX7_wheel_0 : decode cX7_wheel 0 = .ok (.iload_n 1, 1) := by decide +kernel
theorem dX7_wheel_1 : decode cX7_wheel 1 = .ok (.iconst 2, 1) := by decide +kernel
theorem dX7_wheel_2 : decode cX7_wheel 2 = .ok (.if_icmp .lt 16, 3) := by decide +kernel
theorem dX7_wheel_5 : decode cX7_wheel 5 = .ok (.iload_n 1, 1) := by decide +kernel
theorem dX7_wheel_6 : decode cX7_wheel 6 = .ok (.iconst 3, 1) := by decide +kernel
theorem dX7_wheel_7 : decode cX7_wheel 7 = .ok (.if_icmp .gt 11, 3) := by decide +kernel
theorem dX7_wheel_10 : decode cX7_wheel 10 = .ok (.iconst 3, 1) := by decide +kernel
theorem dX7_wheel_11 : decode cX7_wheel 11 = .ok (.lload_n 2, 1) := by decide +kernel
theorem dX7_wheel_12 : decode cX7_wheel 12 = .ok (.invokestatic 62, 3) := by decide +kernel
theorem dX7_wheel_15 : decode cX7_wheel 15 = .ok (.ifCond .ne 10, 3) := by decide +kernel
theorem dX7_wheel_18 : decode cX7_wheel 18 = .ok (.aload_n 0, 1) := by decide +kernel
theorem dX7_wheel_19 : decode cX7_wheel 19 = .ok (.bipush (-2), 2) := by decide +kernel
theorem dX7_wheel_21 : decode cX7_wheel 21 = .ok (.invokevirtual 68, 3) := by decide +kernel
theorem dX7_wheel_24 : decode cX7_wheel 24 = .ok (.ireturn, 1) := by decide +kernel
theorem dX7_wheel_25 : decode cX7_wheel 25 = .ok (.iconst 3, 1) := by decide +kernel
theorem dX7_wheel_26 : decode cX7_wheel 26 = .ok (.lload_n 2, 1) := by decide +kernel
theorem dX7_wheel_27 : decode cX7_wheel 27 = .ok (.iload_n 1, 1) := by decide +kernel
theorem dX7_wheel_28 : decode cX7_wheel 28 = .ok (.invokestatic 72, 3) := by decide +kernel
theorem dX7_wheel_31 : decode cX7_wheel 31 = .ok (.lstore 4, 2) := by decide +kernel
theorem dX7_wheel_33 : decode cX7_wheel 33 = .ok (.iload_n 1, 1) := by decide +kernel
theorem dX7_wheel_34 : decode cX7_wheel 34 = .ok (.lload 4, 2) := by decide +kernel
theorem dX7_wheel_36 : decode cX7_wheel 36 = .ok (.invokestatic 78, 3) := by decide +kernel
theorem dX7_wheel_39 : decode cX7_wheel 39 = .ok (.ifCond .eq 10, 3) := by decide +kernel
theorem dX7_wheel_42 : decode cX7_wheel 42 = .ok (.aload_n 0, 1) := by decide +kernel
theorem dX7_wheel_43 : decode cX7_wheel 43 = .ok (.bipush (-2), 2) := by decide +kernel
theorem dX7_wheel_45 : decode cX7_wheel 45 = .ok (.invokevirtual 68, 3) := by decide +kernel
theorem dX7_wheel_48 : decode cX7_wheel 48 = .ok (.ireturn, 1) := by decide +kernel
theorem dX7_wheel_49 : decode cX7_wheel 49 = .ok (.aload_n 0, 1) := by decide +kernel
theorem dX7_wheel_50 : decode cX7_wheel 50 = .ok (.getfield 39, 3) := by decide +kernel
theorem dX7_wheel_53 : decode cX7_wheel 53 = .ok (.bipush 10, 2) := by decide +kernel
theorem dX7_wheel_55 : decode cX7_wheel 55 = .ok (.if_icmp .lt 10, 3) := by decide +kernel
theorem dX7_wheel_58 : decode cX7_wheel 58 = .ok (.aload_n 0, 1) := by decide +kernel
theorem dX7_wheel_59 : decode cX7_wheel 59 = .ok (.bipush (-3), 2) := by decide +kernel
theorem dX7_wheel_61 : decode cX7_wheel 61 = .ok (.invokevirtual 68, 3) := by decide +kernel
theorem dX7_wheel_64 : decode cX7_wheel 64 = .ok (.ireturn, 1) := by decide +kernel
theorem dX7_wheel_65 : decode cX7_wheel 65 = .ok (.aload_n 0, 1) := by decide +kernel
theorem dX7_wheel_66 : decode cX7_wheel 66 = .ok (.getfield 11, 3) := by decide +kernel
theorem dX7_wheel_69 : decode cX7_wheel 69 = .ok (.aload_n 0, 1) := by decide +kernel
theorem dX7_wheel_70 : decode cX7_wheel 70 = .ok (.getfield 39, 3) := by decide +kernel
theorem dX7_wheel_73 : decode cX7_wheel 73 = .ok (.new 9, 3) := by decide +kernel
theorem dX7_wheel_76 : decode cX7_wheel 76 = .ok (.dup, 1) := by decide +kernel
theorem dX7_wheel_77 : decode cX7_wheel 77 = .ok (.iload_n 1, 1) := by decide +kernel
theorem dX7_wheel_78 : decode cX7_wheel 78 = .ok (.lload 4, 2) := by decide +kernel
theorem dX7_wheel_80 : decode cX7_wheel 80 = .ok (.invokespecial 81, 3) := by decide +kernel
theorem dX7_wheel_83 : decode cX7_wheel 83 = .ok (.aastore, 1) := by decide +kernel
theorem dX7_wheel_84 : decode cX7_wheel 84 = .ok (.aload_n 0, 1) := by decide +kernel
theorem dX7_wheel_85 : decode cX7_wheel 85 = .ok (.aload_n 0, 1) := by decide +kernel
theorem dX7_wheel_86 : decode cX7_wheel 86 = .ok (.dup, 1) := by decide +kernel
theorem dX7_wheel_87 : decode cX7_wheel 87 = .ok (.getfield 39, 3) := by decide +kernel
theorem dX7_wheel_90 : decode cX7_wheel 90 = .ok (.dup_x1, 1) := by decide +kernel
theorem dX7_wheel_91 : decode cX7_wheel 91 = .ok (.iconst 1, 1) := by decide +kernel
theorem dX7_wheel_92 : decode cX7_wheel 92 = .ok (.iadd, 1) := by decide +kernel
theorem dX7_wheel_93 : decode cX7_wheel 93 = .ok (.putfield 39, 3) := by decide +kernel
theorem dX7_wheel_96 : decode cX7_wheel 96 = .ok (.invokevirtual 84, 3) := by decide +kernel
theorem dX7_wheel_99 : decode cX7_wheel 99 = .ok (.ireturn, 1) := by decide +kernel
set_option maxRecDepth 20000 in
theorem ggX7_turn_X7_wheelAt : GoodIn wsX7_turn wsX7_wheelAt := goodIn_r _ [8, 9, 10, 124, 125, 126, 127, 128, 129, 130, 131, 132, 133, 134, 135] (by decide +kernel) (by decide +kernel)
set_option maxRecDepth 20000 in
theorem gX7_turn_X7_wheelAt : GoodIn wsX7_turn (wsV RX7 87 RX7 yX7_wheelAt wsX7_wheelAt) := goodIn_app (goodIn_of _ (by decide +kernel)) ggX7_turn_X7_wheelAt
set_option maxRecDepth 20000 in
theorem ggX7_turn_X2_isNumber : GoodIn wsX7_turn wsX2_isNumber := goodIn_r _ [14, 15, 16, 13, 17, 18, 19, 20, 21, 22, 23, 24, 25, 26, 27] (by decide +kernel) (by decide +kernel)
set_option maxRecDepth 20000 in
theorem gX7_turn_X2_isNumber : GoodIn wsX7_turn (va_wsS RX7 62 yX2_isNumber wsX2_isNumber) := goodIn_app (goodIn_of _ (by decide +kernel)) ggX7_turn_X2_isNumber
set_option maxRecDepth 20000 in
theorem ggX7_turn_X7_refuseAnyNumber : GoodIn wsX7_turn wsX7_refuseAnyNumber := goodIn_r _ [31, 32, 33, 34, 7, 35, 36, 37, 124, 125, 126, 127, 128, 129, 130, 131, 132, 133, 134, 135] (by decide +kernel) (by decide +kernel)
set_option maxRecDepth 20000 in
theorem gX7_turn_X7_refuseAnyNumber : GoodIn wsX7_turn (wsV RX7 91 RX7 yX7_refuseAnyNumber wsX7_refuseAnyNumber) := goodIn_app (goodIn_of _ (by decide +kernel)) ggX7_turn_X7_refuseAnyNumber
set_option maxRecDepth 20000 in
theorem ggX7_turn_X0_cast : GoodIn wsX7_turn wsX0_cast := goodIn_r _ [41, 42, 43, 40, 44, 45, 46, 13, 47, 48, 49, 50, 51, 52, 23, 24, 25, 26, 27, 53, 54, 55, 56, 57, 58, 59, 60, 61, 62, 63, 64, 65, 66, 67, 68, 69, 70, 71, 72, 73, 74, 18, 19, 20, 21, 22, 75, 76, 77, 15, 16, 17, 78, 79, 80, 81, 82, 83, 84, 85, 86, 87, 88, 89, 90, 91, 92, 93] (by decide +kernel) (by decide +kernel)
set_option maxRecDepth 20000 in
theorem gX7_turn_X0_cast : GoodIn wsX7_turn (va_wsS RX7 72 yX0_cast wsX0_cast) := goodIn_app (goodIn_of _ (by decide +kernel)) ggX7_turn_X0_cast
set_option maxRecDepth 20000 in
theorem ggX7_turn_X2_valueOf : GoodIn wsX7_turn wsX2_valueOf := goodIn_r _ [77, 15, 16, 13, 17, 18, 19, 20, 21, 22, 78, 79, 80, 62, 63, 64, 81, 82, 83, 84, 85, 86, 87, 65, 66, 67, 88, 89, 90, 52] (by decide +kernel) (by decide +kernel)
set_option maxRecDepth 20000 in
theorem gX7_turn_X2_valueOf : GoodIn wsX7_turn (va_wsS RX7 97 yX2_valueOf wsX2_valueOf) := goodIn_app (goodIn_of _ (by decide +kernel)) ggX7_turn_X2_valueOf
set_option maxRecDepth 20000 in
theorem ggX7_turn_X2_worked : GoodIn wsX7_turn wsX2_worked := goodIn_r _ [97, 98, 99, 13, 100] (by decide +kernel) (by decide +kernel)
set_option maxRecDepth 20000 in
theorem gX7_turn_X2_worked : GoodIn wsX7_turn (va_wsS RX7 105 yX2_worked wsX2_worked) := goodIn_app (goodIn_of _ (by decide +kernel)) ggX7_turn_X2_worked
set_option maxRecDepth 20000 in
theorem ggX7_turn_X2_bitsOf : GoodIn wsX7_turn wsX2_bitsOf := goodIn_r _ [47, 48, 49, 13, 50, 51, 52, 23, 24, 25, 26, 27, 53, 54, 55, 56, 57, 58, 59, 60, 61, 62, 63, 64, 65, 66, 67, 68, 69, 70, 71, 72, 73, 74, 18, 19, 20, 21, 22] (by decide +kernel) (by decide +kernel)
set_option maxRecDepth 20000 in
theorem gX7_turn_X2_bitsOf : GoodIn wsX7_turn (va_wsS RX7 109 yX2_bitsOf wsX2_bitsOf) := goodIn_app (goodIn_of _ (by decide +kernel)) ggX7_turn_X2_bitsOf
set_option maxRecDepth 20000 in
theorem ggX7_turn_X2_isEndless : GoodIn wsX7_turn wsX2_isEndless := goodIn_r _ [104, 15, 16, 13, 17, 18, 19, 20, 21, 22, 23, 24, 25, 26, 27] (by decide +kernel) (by decide +kernel)
set_option maxRecDepth 20000 in
theorem gX7_turn_X2_isEndless : GoodIn wsX7_turn (va_wsS RX7 113 yX2_isEndless wsX2_isEndless) := goodIn_app (goodIn_of _ (by decide +kernel)) ggX7_turn_X2_isEndless
set_option maxRecDepth 20000 in
theorem ggX7_turn_X2_restOf : GoodIn wsX7_turn wsX2_restOf := goodIn_r _ [107, 15, 16, 13, 17, 18, 19, 20, 21, 22, 108, 109, 110, 111, 112, 86, 113, 78, 79, 80, 62, 63, 64, 81, 82, 83, 84, 85, 87, 114, 115, 116, 53, 54, 55, 56, 57, 58, 59, 60, 61, 68, 69, 70, 71, 72, 73, 74] (by decide +kernel) (by decide +kernel)
set_option maxRecDepth 20000 in
theorem gX7_turn_X2_restOf : GoodIn wsX7_turn (va_wsS RX7 119 yX2_restOf wsX2_restOf) := goodIn_app (goodIn_of _ (by decide +kernel)) ggX7_turn_X2_restOf
set_option maxRecDepth 20000 in
theorem ggX7_turn_X7_answer : GoodIn wsX7_turn wsX7_answer := goodIn_r _ [120, 36, 124, 125, 126, 127, 128, 129, 130, 131, 132, 133, 134, 135] (by decide +kernel) (by decide +kernel)
set_option maxRecDepth 20000 in
theorem gX7_turn_X7_answer : GoodIn wsX7_turn (wsV RX7 84 RX7 yX7_answer wsX7_answer) := goodIn_app (goodIn_of _ (by decide +kernel)) ggX7_turn_X7_answer
theorem dX7_turn_0 : decode cX7_turn 0 = .ok (.aload_n 0, 1) := by decide +kernel
theorem dX7_turn_1 : decode cX7_turn 1 = .ok (.iload_n 1, 1) := by decide +kernel
theorem dX7_turn_2 : decode cX7_turn 2 = .ok (.invokevirtual 87, 3) := by decide +kernel
theorem dX7_turn_5 : decode cX7_turn 5 = .ok (.astore 4, 2) := by decide +kernel
theorem dX7_turn_7 : decode cX7_turn 7 = .ok (.aload 4, 2) := by decide +kernel
theorem dX7_turn_9 : decode cX7_turn 9 = .ok (.ifnull 11, 3) := by decide +kernel
theorem dX7_turn_12 : decode cX7_turn 12 = .ok (.iconst 3, 1) := by decide +kernel
theorem dX7_turn_13 : decode cX7_turn 13 = .ok (.lload_n 2, 1) := by decide +kernel
theorem dX7_turn_14 : decode cX7_turn 14 = .ok (.invokestatic 62, 3) := by decide +kernel
theorem dX7_turn_17 : decode cX7_turn 17 = .ok (.ifCond .ne 10, 3) := by decide +kernel
theorem dX7_turn_20 : decode cX7_turn 20 = .ok (.aload_n 0, 1) := by decide +kernel
theorem dX7_turn_21 : decode cX7_turn 21 = .ok (.bipush (-2), 2) := by decide +kernel
theorem dX7_turn_23 : decode cX7_turn 23 = .ok (.invokevirtual 91, 3) := by decide +kernel
theorem dX7_turn_26 : decode cX7_turn 26 = .ok (.ireturn, 1) := by decide +kernel
theorem dX7_turn_27 : decode cX7_turn 27 = .ok (.aload 4, 2) := by decide +kernel
theorem dX7_turn_29 : decode cX7_turn 29 = .ok (.getfield 94, 3) := by decide +kernel
theorem dX7_turn_32 : decode cX7_turn 32 = .ok (.istore 5, 2) := by decide +kernel
theorem dX7_turn_34 : decode cX7_turn 34 = .ok (.iload 5, 2) := by decide +kernel
theorem dX7_turn_36 : decode cX7_turn 36 = .ok (.iconst 3, 1) := by decide +kernel
theorem dX7_turn_37 : decode cX7_turn 37 = .ok (.lload_n 2, 1) := by decide +kernel
theorem dX7_turn_38 : decode cX7_turn 38 = .ok (.iload 5, 2) := by decide +kernel
theorem dX7_turn_40 : decode cX7_turn 40 = .ok (.invokestatic 72, 3) := by decide +kernel
theorem dX7_turn_43 : decode cX7_turn 43 = .ok (.invokestatic 97, 3) := by decide +kernel
theorem dX7_turn_46 : decode cX7_turn 46 = .ok (.dstore 6, 2) := by decide +kernel
theorem dX7_turn_48 : decode cX7_turn 48 = .ok (.iload 5, 2) := by decide +kernel
theorem dX7_turn_50 : decode cX7_turn 50 = .ok (.iconst 0, 1) := by decide +kernel
theorem dX7_turn_51 : decode cX7_turn 51 = .ok (.iload 5, 2) := by decide +kernel
theorem dX7_turn_53 : decode cX7_turn 53 = .ok (.aload 4, 2) := by decide +kernel
theorem dX7_turn_55 : decode cX7_turn 55 = .ok (.getfield 101, 3) := by decide +kernel
theorem dX7_turn_58 : decode cX7_turn 58 = .ok (.invokestatic 97, 3) := by decide +kernel
theorem dX7_turn_61 : decode cX7_turn 61 = .ok (.dload 6, 2) := by decide +kernel
theorem dX7_turn_63 : decode cX7_turn 63 = .ok (.invokestatic 105, 3) := by decide +kernel
theorem dX7_turn_66 : decode cX7_turn 66 = .ok (.dstore 8, 2) := by decide +kernel
theorem dX7_turn_68 : decode cX7_turn 68 = .ok (.iload 5, 2) := by decide +kernel
theorem dX7_turn_70 : decode cX7_turn 70 = .ok (.dload 8, 2) := by decide +kernel
theorem dX7_turn_72 : decode cX7_turn 72 = .ok (.invokestatic 109, 3) := by decide +kernel
theorem dX7_turn_75 : decode cX7_turn 75 = .ok (.lstore 10, 2) := by decide +kernel
theorem dX7_turn_77 : decode cX7_turn 77 = .ok (.iload 5, 2) := by decide +kernel
theorem dX7_turn_79 : decode cX7_turn 79 = .ok (.lload 10, 2) := by decide +kernel
theorem dX7_turn_81 : decode cX7_turn 81 = .ok (.invokestatic 113, 3) := by decide +kernel
theorem dX7_turn_84 : decode cX7_turn 84 = .ok (.ifCond .eq 10, 3) := by decide +kernel
theorem dX7_turn_87 : decode cX7_turn 87 = .ok (.aload_n 0, 1) := by decide +kernel
theorem dX7_turn_88 : decode cX7_turn 88 = .ok (.bipush (-4), 2) := by decide +kernel
theorem dX7_turn_90 : decode cX7_turn 90 = .ok (.invokevirtual 91, 3) := by decide +kernel
theorem dX7_turn_93 : decode cX7_turn 93 = .ok (.ireturn, 1) := by decide +kernel
theorem dX7_turn_94 : decode cX7_turn 94 = .ok (.aload 4, 2) := by decide +kernel
theorem dX7_turn_96 : decode cX7_turn 96 = .ok (.iload 5, 2) := by decide +kernel
theorem dX7_turn_98 : decode cX7_turn 98 = .ok (.lload 10, 2) := by decide +kernel
theorem dX7_turn_100 : decode cX7_turn 100 = .ok (.aload 4, 2) := by decide +kernel
theorem dX7_turn_102 : decode cX7_turn 102 = .ok (.getfield 116, 3) := by decide +kernel
theorem dX7_turn_105 : decode cX7_turn 105 = .ok (.invokestatic 119, 3) := by decide +kernel
theorem dX7_turn_108 : decode cX7_turn 108 = .ok (.putfield 101, 3) := by decide +kernel
theorem dX7_turn_111 : decode cX7_turn 111 = .ok (.aload_n 0, 1) := by decide +kernel
theorem dX7_turn_112 : decode cX7_turn 112 = .ok (.iload 5, 2) := by decide +kernel
theorem dX7_turn_114 : decode cX7_turn 114 = .ok (.iconst 3, 1) := by decide +kernel
theorem dX7_turn_115 : decode cX7_turn 115 = .ok (.dload 8, 2) := by decide +kernel
theorem dX7_turn_117 : decode cX7_turn 117 = .ok (.iload 5, 2) := by decide +kernel
theorem dX7_turn_119 : decode cX7_turn 119 = .ok (.aload 4, 2) := by decide +kernel
theorem dX7_turn_121 : decode cX7_turn 121 = .ok (.getfield 116, 3) := by decide +kernel
theorem dX7_turn_124 : decode cX7_turn 124 = .ok (.invokestatic 97, 3) := by decide +kernel
theorem dX7_turn_127 : decode cX7_turn 127 = .ok (.invokestatic 105, 3) := by decide +kernel
theorem dX7_turn_130 : decode cX7_turn 130 = .ok (.d2i, 1) := by decide +kernel
theorem dX7_turn_131 : decode cX7_turn 131 = .ok (.invokevirtual 84, 3) := by decide +kernel
theorem dX7_turn_134 : decode cX7_turn 134 = .ok (.ireturn, 1) := by decide +kernel
set_option maxRecDepth 20000 in
theorem ggX7_wheelOf_X7_wheelAt : GoodIn wsX7_wheelOf wsX7_wheelAt := goodIn_r _ [7, 8, 9, 27, 28, 29, 30, 31, 32, 33, 34, 35, 36, 37, 38] (by decide +kernel) (by decide +kernel)
set_option maxRecDepth 20000 in
theorem gX7_wheelOf_X7_wheelAt : GoodIn wsX7_wheelOf (wsV RX7 87 RX7 yX7_wheelAt wsX7_wheelAt) := goodIn_app (goodIn_of _ (by decide +kernel)) ggX7_wheelOf_X7_wheelAt
set_option maxRecDepth 20000 in
theorem ggX7_wheelOf_X7_refuseAnyNumber : GoodIn wsX7_wheelOf wsX7_refuseAnyNumber := goodIn_r _ [13, 14, 15, 16, 6, 17, 18, 19, 27, 28, 29, 30, 31, 32, 33, 34, 35, 36, 37, 38] (by decide +kernel) (by decide +kernel)
set_option maxRecDepth 20000 in
theorem gX7_wheelOf_X7_refuseAnyNumber : GoodIn wsX7_wheelOf (wsV RX7 91 RX7 yX7_refuseAnyNumber wsX7_refuseAnyNumber) := goodIn_app (goodIn_of _ (by decide +kernel)) ggX7_wheelOf_X7_refuseAnyNumber
set_option maxRecDepth 20000 in
theorem ggX7_wheelOf_X7_answerLong : GoodIn wsX7_wheelOf wsX7_answerLong := goodIn_r _ [23, 18, 27, 28, 29, 30, 31, 32, 33, 34, 35, 36, 37, 38] (by decide +kernel) (by decide +kernel)
set_option maxRecDepth 20000 in
theorem gX7_wheelOf_X7_answerLong : GoodIn wsX7_wheelOf (wsV RX7 123 RX7 yX7_answerLong wsX7_answerLong) := goodIn_app (goodIn_of _ (by decide +kernel)) ggX7_wheelOf_X7_answerLong
theorem dX7_wheelOf_0 : decode cX7_wheelOf 0 = .ok (.aload_n 0, 1) := by decide +kernel
theorem dX7_wheelOf_1 : decode cX7_wheelOf 1 = .ok (.iload_n 1, 1) := by decide +kernel
theorem dX7_wheelOf_2 : decode cX7_wheelOf 2 = .ok (.invokevirtual 87, 3) := by decide +kernel
theorem dX7_wheelOf_5 : decode cX7_wheelOf 5 = .ok (.astore_n 3, 1) := by decide +kernel
theorem dX7_wheelOf_6 : decode cX7_wheelOf 6 = .ok (.aload_n 3, 1) := by decide +kernel
theorem dX7_wheelOf_7 : decode cX7_wheelOf 7 = .ok (.ifnull 12, 3) := by decide +kernel
theorem dX7_wheelOf_10 : decode cX7_wheelOf 10 = .ok (.iload_n 2, 1) := by decide +kernel
theorem dX7_wheelOf_11 : decode cX7_wheelOf 11 = .ok (.ifCond .lt 8, 3) := by decide +kernel
theorem dX7_wheelOf_14 : decode cX7_wheelOf 14 = .ok (.iload_n 2, 1) := by decide +kernel
theorem dX7_wheelOf_15 : decode cX7_wheelOf 15 = .ok (.iconst 1, 1) := by decide +kernel
theorem dX7_wheelOf_16 : decode cX7_wheelOf 16 = .ok (.if_icmp .le 11, 3) := by decide +kernel
theorem dX7_wheelOf_19 : decode cX7_wheelOf 19 = .ok (.aload_n 0, 1) := by decide +kernel
theorem dX7_wheelOf_20 : decode cX7_wheelOf 20 = .ok (.bipush (-2), 2) := by decide +kernel
theorem dX7_wheelOf_22 : decode cX7_wheelOf 22 = .ok (.invokevirtual 91, 3) := by decide +kernel
theorem dX7_wheelOf_25 : decode cX7_wheelOf 25 = .ok (.i2l, 1) := by decide +kernel
theorem dX7_wheelOf_26 : decode cX7_wheelOf 26 = .ok (.lreturn, 1) := by decide +kernel
theorem dX7_wheelOf_27 : decode cX7_wheelOf 27 = .ok (.aload_n 0, 1) := by decide +kernel
theorem dX7_wheelOf_28 : decode cX7_wheelOf 28 = .ok (.iload_n 2, 1) := by decide +kernel
theorem dX7_wheelOf_29 : decode cX7_wheelOf 29 = .ok (.ifCond .ne 10, 3) := by decide +kernel
theorem dX7_wheelOf_32 : decode cX7_wheelOf 32 = .ok (.aload_n 3, 1) := by decide +kernel
theorem dX7_wheelOf_33 : decode cX7_wheelOf 33 = .ok (.getfield 101, 3) := by decide +kernel
theorem dX7_wheelOf_36 : decode cX7_wheelOf 36 = .ok (.goto 7, 3) := by decide +kernel
theorem dX7_wheelOf_39 : decode cX7_wheelOf 39 = .ok (.aload_n 3, 1) := by decide +kernel
theorem dX7_wheelOf_40 : decode cX7_wheelOf 40 = .ok (.getfield 116, 3) := by decide +kernel
theorem dX7_wheelOf_43 : decode cX7_wheelOf 43 = .ok (.invokevirtual 123, 3) := by decide +kernel
theorem dX7_wheelOf_46 : decode cX7_wheelOf 46 = .ok (.lreturn, 1) := by decide +kernel
set_option maxRecDepth 20000 in
theorem ggX7_register_X0_isKind : GoodIn wsX7_register wsX0_isKind := goodIn_r _ [9] (by decide +kernel) (by decide +kernel)
set_option maxRecDepth 20000 in
theorem gX7_register_X0_isKind : GoodIn wsX7_register (va_wsS RX7 127 yX0_isKind wsX0_isKind) := goodIn_app (goodIn_of _ (by decide +kernel)) ggX7_register_X0_isKind
set_option maxRecDepth 20000 in
theorem ggX7_register_X7_refuse : GoodIn wsX7_register wsX7_refuse := goodIn_r _ [14, 15, 16, 29, 30, 31, 32, 33, 34, 35, 36, 37, 38, 39, 40] (by decide +kernel) (by decide +kernel)
set_option maxRecDepth 20000 in
theorem gX7_register_X7_refuse : GoodIn wsX7_register (wsV RX7 68 RX7 yX7_refuse wsX7_refuse) := goodIn_app (goodIn_of _ (by decide +kernel)) ggX7_register_X7_refuse
set_option maxRecDepth 20000 in
theorem ggX7_register_X3_init : GoodIn wsX7_register wsX3_init := goodIn_r _ [19, 20, 21, 22, 23, 24, 41, 42] (by decide +kernel) (by decide +kernel)
set_option maxRecDepth 20000 in
theorem gX7_register_X3_init : GoodIn wsX7_register (wsX3_init) := ggX7_register_X3_init
set_option maxRecDepth 20000 in
theorem ggX7_register_X7_answer : GoodIn wsX7_register wsX7_answer := goodIn_r _ [28, 15, 29, 30, 31, 32, 33, 34, 35, 36, 37, 38, 39, 40] (by decide +kernel) (by decide +kernel)
set_option maxRecDepth 20000 in
theorem gX7_register_X7_answer : GoodIn wsX7_register (wsV RX7 84 RX7 yX7_answer wsX7_answer) := goodIn_app (goodIn_of _ (by decide +kernel)) ggX7_register_X7_answer
theorem dX7_register_0 : decode cX7_register 0 = .ok (.iload_n 1, 1) := by decide +kernel
theorem dX7_register_1 : decode cX7_register 1 = .ok (.invokestatic 127, 3) := by decide +kernel
theorem dX7_register_4 : decode cX7_register 4 = .ok (.ifCond .ne 10, 3) := by decide +kernel
theorem dX7_register_7 : decode cX7_register 7 = .ok (.aload_n 0, 1) := by decide +kernel
theorem dX7_register_8 : decode cX7_register 8 = .ok (.bipush (-2), 2) := by decide +kernel
theorem dX7_register_10 : decode cX7_register 10 = .ok (.invokevirtual 68, 3) := by decide +kernel
theorem dX7_register_13 : decode cX7_register 13 = .ok (.ireturn, 1) := by decide +kernel
theorem dX7_register_14 : decode cX7_register 14 = .ok (.aload_n 0, 1) := by decide +kernel
theorem dX7_register_15 : decode cX7_register 15 = .ok (.getfield 43, 3) := by decide +kernel
theorem dX7_register_18 : decode cX7_register 18 = .ok (.bipush 16, 2) := by decide +kernel
theorem dX7_register_20 : decode cX7_register 20 = .ok (.if_icmp .lt 10, 3) := by decide +kernel
theorem dX7_register_23 : decode cX7_register 23 = .ok (.aload_n 0, 1) := by decide +kernel
theorem dX7_register_24 : decode cX7_register 24 = .ok (.bipush (-3), 2) := by decide +kernel
theorem dX7_register_26 : decode cX7_register 26 = .ok (.invokevirtual 68, 3) := by decide +kernel
theorem dX7_register_29 : decode cX7_register 29 = .ok (.ireturn, 1) := by decide +kernel
theorem dX7_register_30 : decode cX7_register 30 = .ok (.aload_n 0, 1) := by decide +kernel
theorem dX7_register_31 : decode cX7_register 31 = .ok (.getfield 17, 3) := by decide +kernel
theorem dX7_register_34 : decode cX7_register 34 = .ok (.aload_n 0, 1) := by decide +kernel
theorem dX7_register_35 : decode cX7_register 35 = .ok (.getfield 43, 3) := by decide +kernel
theorem dX7_register_38 : decode cX7_register 38 = .ok (.new 15, 3) := by decide +kernel
theorem dX7_register_41 : decode cX7_register 41 = .ok (.dup, 1) := by decide +kernel
theorem dX7_register_42 : decode cX7_register 42 = .ok (.iload_n 1, 1) := by decide +kernel
theorem dX7_register_43 : decode cX7_register 43 = .ok (.invokespecial 131, 3) := by decide +kernel
theorem dX7_register_46 : decode cX7_register 46 = .ok (.aastore, 1) := by decide +kernel
theorem dX7_register_47 : decode cX7_register 47 = .ok (.aload_n 0, 1) := by decide +kernel
theorem dX7_register_48 : decode cX7_register 48 = .ok (.aload_n 0, 1) := by decide +kernel
theorem dX7_register_49 : decode cX7_register 49 = .ok (.dup, 1) := by decide +kernel
theorem dX7_register_50 : decode cX7_register 50 = .ok (.getfield 43, 3) := by decide +kernel
theorem dX7_register_53 : decode cX7_register 53 = .ok (.dup_x1, 1) := by decide +kernel
theorem dX7_register_54 : decode cX7_register 54 = .ok (.iconst 1, 1) := by decide +kernel
theorem dX7_register_55 : decode cX7_register 55 = .ok (.iadd, 1) := by decide +kernel
theorem dX7_register_56 : decode cX7_register 56 = .ok (.putfield 43, 3) := by decide +kernel
theorem dX7_register_59 : decode cX7_register 59 = .ok (.invokevirtual 84, 3) := by decide +kernel
theorem dX7_register_62 : decode cX7_register 62 = .ok (.ireturn, 1) := by decide +kernel
set_option maxRecDepth 20000 in
theorem ggX7_load_X7_registerAt : GoodIn wsX7_load wsX7_registerAt := goodIn_r _ [7, 8, 9, 101, 102, 103, 104, 105, 106, 107, 108, 109, 110, 111, 112] (by decide +kernel) (by decide +kernel)
set_option maxRecDepth 20000 in
theorem gX7_load_X7_registerAt : GoodIn wsX7_load (wsV RX7 134 RX7 yX7_registerAt wsX7_registerAt) := goodIn_app (goodIn_of _ (by decide +kernel)) ggX7_load_X7_registerAt
set_option maxRecDepth 20000 in
theorem ggX7_load_X0_isKind : GoodIn wsX7_load wsX0_isKind := goodIn_r _ [13] (by decide +kernel) (by decide +kernel)
set_option maxRecDepth 20000 in
theorem gX7_load_X0_isKind : GoodIn wsX7_load (va_wsS RX7 127 yX0_isKind wsX0_isKind) := goodIn_app (goodIn_of _ (by decide +kernel)) ggX7_load_X0_isKind
set_option maxRecDepth 20000 in
theorem ggX7_load_X7_refuse : GoodIn wsX7_load wsX7_refuse := goodIn_r _ [17, 18, 19, 101, 102, 103, 104, 105, 106, 107, 108, 109, 110, 111, 112] (by decide +kernel) (by decide +kernel)
set_option maxRecDepth 20000 in
theorem gX7_load_X7_refuse : GoodIn wsX7_load (wsV RX7 68 RX7 yX7_refuse wsX7_refuse) := goodIn_app (goodIn_of _ (by decide +kernel)) ggX7_load_X7_refuse
set_option maxRecDepth 20000 in
theorem ggX7_load_X0_isNumber : GoodIn wsX7_load wsX0_isNumber := goodIn_r _ [22, 23, 24, 25, 26, 27, 28, 29, 30, 31, 32, 33, 34, 35, 36, 37, 38, 39] (by decide +kernel) (by decide +kernel)
set_option maxRecDepth 20000 in
theorem gX7_load_X0_isNumber : GoodIn wsX7_load (va_wsS RX7 138 yX0_isNumber wsX0_isNumber) := goodIn_app (goodIn_of _ (by decide +kernel)) ggX7_load_X0_isNumber
set_option maxRecDepth 20000 in
theorem ggX7_load_X0_cast : GoodIn wsX7_load wsX0_cast := goodIn_r _ [42, 43, 44, 12, 45, 46, 47, 25, 48, 49, 50, 51, 52, 53, 35, 36, 37, 38, 39, 54, 55, 56, 57, 58, 59, 60, 61, 62, 63, 64, 65, 66, 67, 68, 69, 70, 71, 72, 73, 74, 75, 30, 31, 32, 33, 34, 76, 77, 78, 27, 28, 29, 79, 80, 81, 82, 83, 84, 85, 86, 87, 88, 89, 90, 91, 92, 93, 94] (by decide +kernel) (by decide +kernel)
set_option maxRecDepth 20000 in
theorem gX7_load_X0_cast : GoodIn wsX7_load (va_wsS RX7 72 yX0_cast wsX0_cast) := goodIn_app (goodIn_of _ (by decide +kernel)) ggX7_load_X0_cast
set_option maxRecDepth 20000 in
theorem ggX7_load_X7_answer : GoodIn wsX7_load wsX7_answer := goodIn_r _ [98, 18, 101, 102, 103, 104, 105, 106, 107, 108, 109, 110, 111, 112] (by decide +kernel) (by decide +kernel)
set_option maxRecDepth 20000 in
theorem gX7_load_X7_answer : GoodIn wsX7_load (wsV RX7 84 RX7 yX7_answer wsX7_answer) := goodIn_app (goodIn_of _ (by decide +kernel)) ggX7_load_X7_answer
theorem dX7_load_0 : decode cX7_load 0 = .ok (.aload_n 0, 1) := by decide +kernel
theorem dX7_load_1 : decode cX7_load 1 = .ok (.iload_n 1, 1) := by decide +kernel
theorem dX7_load_2 : decode cX7_load 2 = .ok (.invokevirtual 134, 3) := by decide +kernel
theorem dX7_load_5 : decode cX7_load 5 = .ok (.astore 5, 2) := by decide +kernel
theorem dX7_load_7 : decode cX7_load 7 = .ok (.aload 5, 2) := by decide +kernel
theorem dX7_load_9 : decode cX7_load 9 = .ok (.ifnull 10, 3) := by decide +kernel
theorem dX7_load_12 : decode cX7_load 12 = .ok (.iload_n 2, 1) := by decide +kernel
theorem dX7_load_13 : decode cX7_load 13 = .ok (.invokestatic 127, 3) := by decide +kernel
theorem dX7_load_16 : decode cX7_load 16 = .ok (.ifCond .ne 10, 3) := by decide +kernel
theorem dX7_load_19 : decode cX7_load 19 = .ok (.aload_n 0, 1) := by decide +kernel
theorem dX7_load_20 : decode cX7_load 20 = .ok (.bipush (-2), 2) := by decide +kernel
theorem dX7_load_22 : decode cX7_load 22 = .ok (.invokevirtual 68, 3) := by decide +kernel
theorem dX7_load_25 : decode cX7_load 25 = .ok (.ireturn, 1) := by decide +kernel
theorem dX7_load_26 : decode cX7_load 26 = .ok (.iload_n 2, 1) := by decide +kernel
theorem dX7_load_27 : decode cX7_load 27 = .ok (.ifCond .eq 8, 3) := by decide +kernel
theorem dX7_load_30 : decode cX7_load 30 = .ok (.iload_n 2, 1) := by decide +kernel
theorem dX7_load_31 : decode cX7_load 31 = .ok (.iconst 2, 1) := by decide +kernel
theorem dX7_load_32 : decode cX7_load 32 = .ok (.if_icmp .ne 9, 3) := by decide +kernel
theorem dX7_load_35 : decode cX7_load 35 = .ok (.lload_n 3, 1) := by decide +kernel
theorem dX7_load_36 : decode cX7_load 36 = .ok (.l2i, 1) := by decide +kernel
theorem dX7_load_37 : decode cX7_load 37 = .ok (.i2l, 1) := by decide +kernel
theorem dX7_load_38 : decode cX7_load 38 = .ok (.goto 4, 3) := by decide +kernel
theorem dX7_load_41 : decode cX7_load 41 = .ok (.lload_n 3, 1) := by decide +kernel
theorem dX7_load_42 : decode cX7_load 42 = .ok (.lstore 6, 2) := by decide +kernel
theorem dX7_load_44 : decode cX7_load 44 = .ok (.iload_n 2, 1) := by decide +kernel
theorem dX7_load_45 : decode cX7_load 45 = .ok (.lload 6, 2) := by decide +kernel
theorem dX7_load_47 : decode cX7_load 47 = .ok (.invokestatic 138, 3) := by decide +kernel
theorem dX7_load_50 : decode cX7_load 50 = .ok (.ifCond .ne 10, 3) := by decide +kernel
theorem dX7_load_53 : decode cX7_load 53 = .ok (.aload_n 0, 1) := by decide +kernel
theorem dX7_load_54 : decode cX7_load 54 = .ok (.bipush (-2), 2) := by decide +kernel
theorem dX7_load_56 : decode cX7_load 56 = .ok (.invokevirtual 68, 3) := by decide +kernel
theorem dX7_load_59 : decode cX7_load 59 = .ok (.ireturn, 1) := by decide +kernel
theorem dX7_load_60 : decode cX7_load 60 = .ok (.aload 5, 2) := by decide +kernel
theorem dX7_load_62 : decode cX7_load 62 = .ok (.iload_n 2, 1) := by decide +kernel
theorem dX7_load_63 : decode cX7_load 63 = .ok (.lload 6, 2) := by decide +kernel
theorem dX7_load_65 : decode cX7_load 65 = .ok (.aload 5, 2) := by decide +kernel
theorem dX7_load_67 : decode cX7_load 67 = .ok (.getfield 139, 3) := by decide +kernel
theorem dX7_load_70 : decode cX7_load 70 = .ok (.invokestatic 72, 3) := by decide +kernel
theorem dX7_load_73 : decode cX7_load 73 = .ok (.putfield 140, 3) := by decide +kernel
theorem dX7_load_76 : decode cX7_load 76 = .ok (.aload_n 0, 1) := by decide +kernel
theorem dX7_load_77 : decode cX7_load 77 = .ok (.iconst 1, 1) := by decide +kernel
theorem dX7_load_78 : decode cX7_load 78 = .ok (.invokevirtual 84, 3) := by decide +kernel
theorem dX7_load_81 : decode cX7_load 81 = .ok (.ireturn, 1) := by decide +kernel
set_option maxRecDepth 20000 in
theorem ggX7_read_X7_registerAt : GoodIn wsX7_read wsX7_registerAt := goodIn_r _ [7, 8, 9, 99, 100, 101, 102, 103, 104, 105, 106, 107, 108, 109, 110] (by decide +kernel) (by decide +kernel)
set_option maxRecDepth 20000 in
theorem gX7_read_X7_registerAt : GoodIn wsX7_read (wsV RX7 134 RX7 yX7_registerAt wsX7_registerAt) := goodIn_app (goodIn_of _ (by decide +kernel)) ggX7_read_X7_registerAt
set_option maxRecDepth 20000 in
theorem ggX7_read_X0_isKind : GoodIn wsX7_read wsX0_isKind := goodIn_r _ [13] (by decide +kernel) (by decide +kernel)
set_option maxRecDepth 20000 in
theorem gX7_read_X0_isKind : GoodIn wsX7_read (va_wsS RX7 127 yX0_isKind wsX0_isKind) := goodIn_app (goodIn_of _ (by decide +kernel)) ggX7_read_X0_isKind
set_option maxRecDepth 20000 in
theorem ggX7_read_X7_refuseAnyNumber : GoodIn wsX7_read wsX7_refuseAnyNumber := goodIn_r _ [17, 18, 19, 20, 6, 21, 22, 23, 99, 100, 101, 102, 103, 104, 105, 106, 107, 108, 109, 110] (by decide +kernel) (by decide +kernel)
set_option maxRecDepth 20000 in
theorem gX7_read_X7_refuseAnyNumber : GoodIn wsX7_read (wsV RX7 91 RX7 yX7_refuseAnyNumber wsX7_refuseAnyNumber) := goodIn_app (goodIn_of _ (by decide +kernel)) ggX7_read_X7_refuseAnyNumber
set_option maxRecDepth 20000 in
theorem ggX7_read_X0_cast : GoodIn wsX7_read wsX0_cast := goodIn_r _ [26, 27, 28, 12, 29, 30, 31, 32, 33, 34, 35, 36, 37, 38, 39, 40, 41, 42, 43, 44, 45, 46, 47, 48, 49, 50, 51, 52, 53, 54, 55, 56, 57, 58, 59, 60, 61, 62, 63, 64, 65, 66, 67, 68, 69, 70, 71, 72, 73, 74, 75, 76, 77, 78, 79, 80, 81, 82, 83, 84, 85, 86, 87, 88, 89, 90, 91, 92] (by decide +kernel) (by decide +kernel)
set_option maxRecDepth 20000 in
theorem gX7_read_X0_cast : GoodIn wsX7_read (va_wsS RX7 72 yX0_cast wsX0_cast) := goodIn_app (goodIn_of _ (by decide +kernel)) ggX7_read_X0_cast
set_option maxRecDepth 20000 in
theorem ggX7_read_X7_answerLong : GoodIn wsX7_read wsX7_answerLong := goodIn_r _ [96, 22, 99, 100, 101, 102, 103, 104, 105, 106, 107, 108, 109, 110] (by decide +kernel) (by decide +kernel)
set_option maxRecDepth 20000 in
theorem gX7_read_X7_answerLong : GoodIn wsX7_read (wsV RX7 123 RX7 yX7_answerLong wsX7_answerLong) := goodIn_app (goodIn_of _ (by decide +kernel)) ggX7_read_X7_answerLong
theorem dX7_read_0 : decode cX7_read 0 = .ok (.aload_n 0, 1) := by decide +kernel
theorem dX7_read_1 : decode cX7_read 1 = .ok (.iload_n 1, 1) := by decide +kernel
theorem dX7_read_2 : decode cX7_read 2 = .ok (.invokevirtual 134, 3) := by decide +kernel
theorem dX7_read_5 : decode cX7_read 5 = .ok (.astore_n 3, 1) := by decide +kernel
theorem dX7_read_6 : decode cX7_read 6 = .ok (.aload_n 3, 1) := by decide +kernel
theorem dX7_read_7 : decode cX7_read 7 = .ok (.ifnull 10, 3) := by decide +kernel
theorem dX7_read_10 : decode cX7_read 10 = .ok (.iload_n 2, 1) := by decide +kernel
theorem dX7_read_11 : decode cX7_read 11 = .ok (.invokestatic 127, 3) := by decide +kernel
theorem dX7_read_14 : decode cX7_read 14 = .ok (.ifCond .ne 11, 3) := by decide +kernel
theorem dX7_read_17 : decode cX7_read 17 = .ok (.aload_n 0, 1) := by decide +kernel
theorem dX7_read_18 : decode cX7_read 18 = .ok (.bipush (-2), 2) := by decide +kernel
theorem dX7_read_20 : decode cX7_read 20 = .ok (.invokevirtual 91, 3) := by decide +kernel
theorem dX7_read_23 : decode cX7_read 23 = .ok (.i2l, 1) := by decide +kernel
theorem dX7_read_24 : decode cX7_read 24 = .ok (.lreturn, 1) := by decide +kernel
theorem dX7_read_25 : decode cX7_read 25 = .ok (.aload_n 0, 1) := by decide +kernel
theorem dX7_read_26 : decode cX7_read 26 = .ok (.aload_n 3, 1) := by decide +kernel
theorem dX7_read_27 : decode cX7_read 27 = .ok (.getfield 139, 3) := by decide +kernel
theorem dX7_read_30 : decode cX7_read 30 = .ok (.aload_n 3, 1) := by decide +kernel
theorem dX7_read_31 : decode cX7_read 31 = .ok (.getfield 140, 3) := by decide +kernel
theorem dX7_read_34 : decode cX7_read 34 = .ok (.iload_n 2, 1) := by decide +kernel
theorem dX7_read_35 : decode cX7_read 35 = .ok (.invokestatic 72, 3) := by decide +kernel
theorem dX7_read_38 : decode cX7_read 38 = .ok (.invokevirtual 123, 3) := by decide +kernel
theorem dX7_read_41 : decode cX7_read 41 = .ok (.lreturn, 1) := by decide +kernel
set_option maxRecDepth 20000 in
theorem ggX7_move_X7_registerAt : GoodIn wsX7_move wsX7_registerAt := goodIn_r _ [7, 8, 9, 92, 93, 94, 95, 96, 97, 98, 99, 100, 101, 102, 103] (by decide +kernel) (by decide +kernel)
set_option maxRecDepth 20000 in
theorem gX7_move_X7_registerAt : GoodIn wsX7_move (wsV RX7 134 RX7 yX7_registerAt wsX7_registerAt) := goodIn_app (goodIn_of _ (by decide +kernel)) ggX7_move_X7_registerAt
set_option maxRecDepth 20000 in
theorem ggX7_move_X7_refuse : GoodIn wsX7_move wsX7_refuse := goodIn_r _ [13, 14, 15, 92, 93, 94, 95, 96, 97, 98, 99, 100, 101, 102, 103] (by decide +kernel) (by decide +kernel)
set_option maxRecDepth 20000 in
theorem gX7_move_X7_refuse : GoodIn wsX7_move (wsV RX7 68 RX7 yX7_refuse wsX7_refuse) := goodIn_app (goodIn_of _ (by decide +kernel)) ggX7_move_X7_refuse
set_option maxRecDepth 20000 in
theorem ggX7_move_X0_cast : GoodIn wsX7_move wsX0_cast := goodIn_r _ [19, 20, 21, 18, 22, 23, 24, 25, 26, 27, 28, 29, 30, 31, 32, 33, 34, 35, 36, 37, 38, 39, 40, 41, 42, 43, 44, 45, 46, 47, 48, 49, 50, 51, 52, 53, 54, 55, 56, 57, 58, 59, 60, 61, 62, 63, 64, 65, 66, 67, 68, 69, 70, 71, 72, 73, 74, 75, 76, 77, 78, 79, 80, 81, 82, 83, 84, 85] (by decide +kernel) (by decide +kernel)
set_option maxRecDepth 20000 in
theorem gX7_move_X0_cast : GoodIn wsX7_move (va_wsS RX7 72 yX0_cast wsX0_cast) := goodIn_app (goodIn_of _ (by decide +kernel)) ggX7_move_X0_cast
set_option maxRecDepth 20000 in
theorem ggX7_move_X7_answer : GoodIn wsX7_move wsX7_answer := goodIn_r _ [89, 14, 92, 93, 94, 95, 96, 97, 98, 99, 100, 101, 102, 103] (by decide +kernel) (by decide +kernel)
set_option maxRecDepth 20000 in
theorem gX7_move_X7_answer : GoodIn wsX7_move (wsV RX7 84 RX7 yX7_answer wsX7_answer) := goodIn_app (goodIn_of _ (by decide +kernel)) ggX7_move_X7_answer
theorem dX7_move_0 : decode cX7_move 0 = .ok (.aload_n 0, 1) := by decide +kernel
theorem dX7_move_1 : decode cX7_move 1 = .ok (.iload_n 1, 1) := by decide +kernel
theorem dX7_move_2 : decode cX7_move 2 = .ok (.invokevirtual 134, 3) := by decide +kernel
theorem dX7_move_5 : decode cX7_move 5 = .ok (.astore_n 3, 1) := by decide +kernel
theorem dX7_move_6 : decode cX7_move 6 = .ok (.aload_n 0, 1) := by decide +kernel
theorem dX7_move_7 : decode cX7_move 7 = .ok (.iload_n 2, 1) := by decide +kernel
theorem dX7_move_8 : decode cX7_move 8 = .ok (.invokevirtual 134, 3) := by decide +kernel
theorem dX7_move_11 : decode cX7_move 11 = .ok (.astore 4, 2) := by decide +kernel
theorem dX7_move_13 : decode cX7_move 13 = .ok (.aload_n 3, 1) := by decide +kernel
theorem dX7_move_14 : decode cX7_move 14 = .ok (.ifnull 8, 3) := by decide +kernel
theorem dX7_move_17 : decode cX7_move 17 = .ok (.aload 4, 2) := by decide +kernel
theorem dX7_move_19 : decode cX7_move 19 = .ok (.ifnonnull 10, 3) := by decide +kernel
theorem dX7_move_22 : decode cX7_move 22 = .ok (.aload_n 0, 1) := by decide +kernel
theorem dX7_move_23 : decode cX7_move 23 = .ok (.bipush (-2), 2) := by decide +kernel
theorem dX7_move_25 : decode cX7_move 25 = .ok (.invokevirtual 68, 3) := by decide +kernel
theorem dX7_move_28 : decode cX7_move 28 = .ok (.ireturn, 1) := by decide +kernel
theorem dX7_move_29 : decode cX7_move 29 = .ok (.aload_n 3, 1) := by decide +kernel
theorem dX7_move_30 : decode cX7_move 30 = .ok (.getfield 139, 3) := by decide +kernel
theorem dX7_move_33 : decode cX7_move 33 = .ok (.aload_n 3, 1) := by decide +kernel
theorem dX7_move_34 : decode cX7_move 34 = .ok (.getfield 140, 3) := by decide +kernel
theorem dX7_move_37 : decode cX7_move 37 = .ok (.aload 4, 2) := by decide +kernel
theorem dX7_move_39 : decode cX7_move 39 = .ok (.getfield 139, 3) := by decide +kernel
theorem dX7_move_42 : decode cX7_move 42 = .ok (.invokestatic 72, 3) := by decide +kernel
theorem dX7_move_45 : decode cX7_move 45 = .ok (.lstore 5, 2) := by decide +kernel
theorem dX7_move_47 : decode cX7_move 47 = .ok (.aload 4, 2) := by decide +kernel
theorem dX7_move_49 : decode cX7_move 49 = .ok (.getfield 139, 3) := by decide +kernel
theorem dX7_move_52 : decode cX7_move 52 = .ok (.lload 5, 2) := by decide +kernel
theorem dX7_move_54 : decode cX7_move 54 = .ok (.aload_n 3, 1) := by decide +kernel
theorem dX7_move_55 : decode cX7_move 55 = .ok (.getfield 139, 3) := by decide +kernel
theorem dX7_move_58 : decode cX7_move 58 = .ok (.invokestatic 72, 3) := by decide +kernel
theorem dX7_move_61 : decode cX7_move 61 = .ok (.aload_n 3, 1) := by decide +kernel
theorem dX7_move_62 : decode cX7_move 62 = .ok (.getfield 140, 3) := by decide +kernel
theorem dX7_move_65 : decode cX7_move 65 = .ok (.lcmp, 1) := by decide +kernel
theorem dX7_move_66 : decode cX7_move 66 = .ok (.ifCond .ne 7, 3) := by decide +kernel
theorem dX7_move_69 : decode cX7_move 69 = .ok (.iconst 1, 1) := by decide +kernel
theorem dX7_move_70 : decode cX7_move 70 = .ok (.goto 4, 3) := by decide +kernel
theorem dX7_move_73 : decode cX7_move 73 = .ok (.iconst 0, 1) := by decide +kernel
theorem dX7_move_74 : decode cX7_move 74 = .ok (.istore 7, 2) := by decide +kernel
theorem dX7_move_76 : decode cX7_move 76 = .ok (.aload 4, 2) := by decide +kernel
theorem dX7_move_78 : decode cX7_move 78 = .ok (.lload 5, 2) := by decide +kernel
theorem dX7_move_80 : decode cX7_move 80 = .ok (.putfield 140, 3) := by decide +kernel
theorem dX7_move_83 : decode cX7_move 83 = .ok (.aload_n 0, 1) := by decide +kernel
theorem dX7_move_84 : decode cX7_move 84 = .ok (.iload 7, 2) := by decide +kernel
theorem dX7_move_86 : decode cX7_move 86 = .ok (.ifCond .eq 7, 3) := by decide +kernel
theorem dX7_move_89 : decode cX7_move 89 = .ok (.iconst 1, 1) := by decide +kernel
theorem dX7_move_90 : decode cX7_move 90 = .ok (.goto 4, 3) := by decide +kernel
theorem dX7_move_93 : decode cX7_move 93 = .ok (.iconst 0, 1) := by decide +kernel
theorem dX7_move_94 : decode cX7_move 94 = .ok (.invokevirtual 84, 3) := by decide +kernel
theorem dX7_move_97 : decode cX7_move 97 = .ok (.ireturn, 1) := by decide +kernel
set_option maxRecDepth 20000 in
theorem ggX7_take_X7_wheelAt : GoodIn wsX7_take wsX7_wheelAt := goodIn_r _ [9, 10, 11, 103, 104, 105, 106, 107, 108, 109, 110, 111, 112, 113, 114] (by decide +kernel) (by decide +kernel)
set_option maxRecDepth 20000 in
theorem gX7_take_X7_wheelAt : GoodIn wsX7_take (wsV RX7 87 RX7 yX7_wheelAt wsX7_wheelAt) := goodIn_app (goodIn_of _ (by decide +kernel)) ggX7_take_X7_wheelAt
set_option maxRecDepth 20000 in
theorem ggX7_take_X7_registerAt : GoodIn wsX7_take wsX7_registerAt := goodIn_r _ [15, 16, 17, 103, 104, 105, 106, 107, 108, 109, 110, 111, 112, 113, 114] (by decide +kernel) (by decide +kernel)
set_option maxRecDepth 20000 in
theorem gX7_take_X7_registerAt : GoodIn wsX7_take (wsV RX7 134 RX7 yX7_registerAt wsX7_registerAt) := goodIn_app (goodIn_of _ (by decide +kernel)) ggX7_take_X7_registerAt
set_option maxRecDepth 20000 in
theorem ggX7_take_X7_refuse : GoodIn wsX7_take wsX7_refuse := goodIn_r _ [21, 22, 23, 103, 104, 105, 106, 107, 108, 109, 110, 111, 112, 113, 114] (by decide +kernel) (by decide +kernel)
set_option maxRecDepth 20000 in
theorem gX7_take_X7_refuse : GoodIn wsX7_take (wsV RX7 68 RX7 yX7_refuse wsX7_refuse) := goodIn_app (goodIn_of _ (by decide +kernel)) ggX7_take_X7_refuse
set_option maxRecDepth 20000 in
theorem ggX7_take_X0_cast : GoodIn wsX7_take wsX0_cast := goodIn_r _ [27, 28, 29, 26, 30, 31, 32, 33, 34, 35, 36, 37, 38, 39, 40, 41, 42, 43, 44, 45, 46, 47, 48, 49, 50, 51, 52, 53, 54, 55, 56, 57, 58, 59, 60, 61, 62, 63, 64, 65, 66, 67, 68, 69, 70, 71, 72, 73, 74, 75, 76, 77, 78, 79, 80, 81, 82, 83, 84, 85, 86, 87, 88, 89, 90, 91, 92, 93] (by decide +kernel) (by decide +kernel)
set_option maxRecDepth 20000 in
theorem gX7_take_X0_cast : GoodIn wsX7_take (va_wsS RX7 72 yX0_cast wsX0_cast) := goodIn_app (goodIn_of _ (by decide +kernel)) ggX7_take_X0_cast
set_option maxRecDepth 20000 in
theorem ggX7_take_X7_answer : GoodIn wsX7_take wsX7_answer := goodIn_r _ [97, 22, 103, 104, 105, 106, 107, 108, 109, 110, 111, 112, 113, 114] (by decide +kernel) (by decide +kernel)
set_option maxRecDepth 20000 in
theorem gX7_take_X7_answer : GoodIn wsX7_take (wsV RX7 84 RX7 yX7_answer wsX7_answer) := goodIn_app (goodIn_of _ (by decide +kernel)) ggX7_take_X7_answer
theorem dX7_take_0 : decode cX7_take 0 = .ok (.aload_n 0, 1) := by decide +kernel
theorem dX7_take_1 : decode cX7_take 1 = .ok (.iload_n 1, 1) := by decide +kernel
theorem dX7_take_2 : decode cX7_take 2 = .ok (.invokevirtual 87, 3) := by decide +kernel
theorem dX7_take_5 : decode cX7_take 5 = .ok (.astore_n 3, 1) := by decide +kernel
theorem dX7_take_6 : decode cX7_take 6 = .ok (.aload_n 0, 1) := by decide +kernel
theorem dX7_take_7 : decode cX7_take 7 = .ok (.iload_n 2, 1) := by decide +kernel
theorem dX7_take_8 : decode cX7_take 8 = .ok (.invokevirtual 134, 3) := by decide +kernel
theorem dX7_take_11 : decode cX7_take 11 = .ok (.astore 4, 2) := by decide +kernel
theorem dX7_take_13 : decode cX7_take 13 = .ok (.aload_n 3, 1) := by decide +kernel
theorem dX7_take_14 : decode cX7_take 14 = .ok (.ifnull 8, 3) := by decide +kernel
theorem dX7_take_17 : decode cX7_take 17 = .ok (.aload 4, 2) := by decide +kernel
theorem dX7_take_19 : decode cX7_take 19 = .ok (.ifnonnull 10, 3) := by decide +kernel
theorem dX7_take_22 : decode cX7_take 22 = .ok (.aload_n 0, 1) := by decide +kernel
theorem dX7_take_23 : decode cX7_take 23 = .ok (.bipush (-2), 2) := by decide +kernel
theorem dX7_take_25 : decode cX7_take 25 = .ok (.invokevirtual 68, 3) := by decide +kernel
theorem dX7_take_28 : decode cX7_take 28 = .ok (.ireturn, 1) := by decide +kernel
theorem dX7_take_29 : decode cX7_take 29 = .ok (.aload 4, 2) := by decide +kernel
theorem dX7_take_31 : decode cX7_take 31 = .ok (.aload_n 3, 1) := by decide +kernel
theorem dX7_take_32 : decode cX7_take 32 = .ok (.getfield 94, 3) := by decide +kernel
theorem dX7_take_35 : decode cX7_take 35 = .ok (.aload_n 3, 1) := by decide +kernel
theorem dX7_take_36 : decode cX7_take 36 = .ok (.getfield 101, 3) := by decide +kernel
theorem dX7_take_39 : decode cX7_take 39 = .ok (.aload 4, 2) := by decide +kernel
theorem dX7_take_41 : decode cX7_take 41 = .ok (.getfield 139, 3) := by decide +kernel
theorem dX7_take_44 : decode cX7_take 44 = .ok (.invokestatic 72, 3) := by decide +kernel
theorem dX7_take_47 : decode cX7_take 47 = .ok (.putfield 140, 3) := by decide +kernel
theorem dX7_take_50 : decode cX7_take 50 = .ok (.aload_n 0, 1) := by decide +kernel
theorem dX7_take_51 : decode cX7_take 51 = .ok (.iconst 1, 1) := by decide +kernel
theorem dX7_take_52 : decode cX7_take 52 = .ok (.invokevirtual 84, 3) := by decide +kernel
theorem dX7_take_55 : decode cX7_take 55 = .ok (.ireturn, 1) := by decide +kernel
set_option maxRecDepth 20000 in
theorem ggX7_work_X7_registerAt : GoodIn wsX7_work wsX7_registerAt := goodIn_r _ [11, 12, 13, 126, 127, 128, 129, 130, 131, 132, 133, 134, 135, 136, 137] (by decide +kernel) (by decide +kernel)
set_option maxRecDepth 20000 in
theorem gX7_work_X7_registerAt : GoodIn wsX7_work (wsV RX7 134 RX7 yX7_registerAt wsX7_registerAt) := goodIn_app (goodIn_of _ (by decide +kernel)) ggX7_work_X7_registerAt
set_option maxRecDepth 20000 in
theorem ggX7_work_X7_refuse : GoodIn wsX7_work wsX7_refuse := goodIn_r _ [17, 18, 19, 126, 127, 128, 129, 130, 131, 132, 133, 134, 135, 136, 137] (by decide +kernel) (by decide +kernel)
set_option maxRecDepth 20000 in
theorem gX7_work_X7_refuse : GoodIn wsX7_work (wsV RX7 68 RX7 yX7_refuse wsX7_refuse) := goodIn_app (goodIn_of _ (by decide +kernel)) ggX7_work_X7_refuse
set_option maxRecDepth 20000 in
theorem ggX7_work_X0_cast : GoodIn wsX7_work wsX0_cast := goodIn_r _ [23, 24, 25, 22, 26, 27, 28, 29, 30, 31, 32, 33, 34, 35, 36, 37, 38, 39, 40, 41, 42, 43, 44, 45, 46, 47, 48, 49, 50, 51, 52, 53, 54, 55, 56, 57, 58, 59, 60, 61, 62, 63, 64, 65, 66, 67, 68, 69, 70, 71, 72, 73, 74, 75, 76, 77, 78, 79, 80, 3, 4, 5, 81, 82, 83, 84, 85, 86] (by decide +kernel) (by decide +kernel)
set_option maxRecDepth 20000 in
theorem gX7_work_X0_cast : GoodIn wsX7_work (va_wsS RX7 72 yX0_cast wsX0_cast) := goodIn_app (goodIn_of _ (by decide +kernel)) ggX7_work_X0_cast
set_option maxRecDepth 20000 in
theorem ggX7_work_X2_isVoid : GoodIn wsX7_work wsX2_isVoid := goodIn_r _ [89, 90, 91, 29, 92, 71, 72, 73, 63, 64, 65, 66, 67, 36, 37, 38, 39, 40, 93, 94, 95] (by decide +kernel) (by decide +kernel)
set_option maxRecDepth 20000 in
theorem gX7_work_X2_isVoid : GoodIn wsX7_work (va_wsS RX7 149 yX2_isVoid wsX2_isVoid) := goodIn_app (goodIn_of _ (by decide +kernel)) ggX7_work_X2_isVoid
set_option maxRecDepth 20000 in
theorem ggX7_work_X0_worked : GoodIn wsX7_work wsX0_worked := goodIn_r _ [98, 99, 100, 22, 101, 102, 103, 29, 104, 71, 72, 73, 63, 64, 65, 66, 67, 105, 106, 107, 108, 109, 4, 110, 74, 75, 76, 50, 51, 52, 77, 78, 79, 80, 3, 5, 111, 112, 113, 41, 42, 43, 44, 45, 46, 47, 48, 49, 56, 57, 58, 59, 60, 61, 62, 68, 69, 70, 53, 54, 55, 81, 82, 83, 35, 114, 115, 116, 117, 118, 119, 27, 28, 30, 31, 32, 33, 34, 36, 37, 38, 39, 40] (by decide +kernel) (by decide +kernel)
set_option maxRecDepth 20000 in
theorem gX7_work_X0_worked : GoodIn wsX7_work (va_wsS RX7 153 yX0_worked wsX0_worked) := goodIn_app (goodIn_of _ (by decide +kernel)) ggX7_work_X0_worked
set_option maxRecDepth 20000 in
theorem ggX7_work_X7_answer : GoodIn wsX7_work wsX7_answer := goodIn_r _ [123, 18, 126, 127, 128, 129, 130, 131, 132, 133, 134, 135, 136, 137] (by decide +kernel) (by decide +kernel)
set_option maxRecDepth 20000 in
theorem gX7_work_X7_answer : GoodIn wsX7_work (wsV RX7 84 RX7 yX7_answer wsX7_answer) := goodIn_app (goodIn_of _ (by decide +kernel)) ggX7_work_X7_answer
theorem dX7_work_0 : decode cX7_work 0 = .ok (.aload_n 0, 1) := by decide +kernel
theorem dX7_work_1 : decode cX7_work 1 = .ok (.iload_n 2, 1) := by decide +kernel
theorem dX7_work_2 : decode cX7_work 2 = .ok (.invokevirtual 134, 3) := by decide +kernel
theorem dX7_work_5 : decode cX7_work 5 = .ok (.astore 5, 2) := by decide +kernel
theorem dX7_work_7 : decode cX7_work 7 = .ok (.aload_n 0, 1) := by decide +kernel
theorem dX7_work_8 : decode cX7_work 8 = .ok (.iload_n 3, 1) := by decide +kernel
theorem dX7_work_9 : decode cX7_work 9 = .ok (.invokevirtual 134, 3) := by decide +kernel
theorem dX7_work_12 : decode cX7_work 12 = .ok (.astore 6, 2) := by decide +kernel
theorem dX7_work_14 : decode cX7_work 14 = .ok (.aload_n 0, 1) := by decide +kernel
theorem dX7_work_15 : decode cX7_work 15 = .ok (.iload 4, 2) := by decide +kernel
theorem dX7_work_17 : decode cX7_work 17 = .ok (.invokevirtual 134, 3) := by decide +kernel
theorem dX7_work_20 : decode cX7_work 20 = .ok (.astore 7, 2) := by decide +kernel
theorem dX7_work_22 : decode cX7_work 22 = .ok (.iload_n 1, 1) := by decide +kernel
theorem dX7_work_23 : decode cX7_work 23 = .ok (.ifCond .lt 23, 3) := by decide +kernel
theorem dX7_work_26 : decode cX7_work 26 = .ok (.iload_n 1, 1) := by decide +kernel
theorem dX7_work_27 : decode cX7_work 27 = .ok (.iconst 4, 1) := by decide +kernel
theorem dX7_work_28 : decode cX7_work 28 = .ok (.if_icmp .gt 18, 3) := by decide +kernel
theorem dX7_work_31 : decode cX7_work 31 = .ok (.aload 5, 2) := by decide +kernel
theorem dX7_work_33 : decode cX7_work 33 = .ok (.ifnull 13, 3) := by decide +kernel
theorem dX7_work_36 : decode cX7_work 36 = .ok (.aload 6, 2) := by decide +kernel
theorem dX7_work_38 : decode cX7_work 38 = .ok (.ifnull 8, 3) := by decide +kernel
theorem dX7_work_41 : decode cX7_work 41 = .ok (.aload 7, 2) := by decide +kernel
theorem dX7_work_43 : decode cX7_work 43 = .ok (.ifnonnull 10, 3) := by decide +kernel
theorem dX7_work_46 : decode cX7_work 46 = .ok (.aload_n 0, 1) := by decide +kernel
theorem dX7_work_47 : decode cX7_work 47 = .ok (.bipush (-2), 2) := by decide +kernel
theorem dX7_work_49 : decode cX7_work 49 = .ok (.invokevirtual 68, 3) := by decide +kernel
theorem dX7_work_52 : decode cX7_work 52 = .ok (.ireturn, 1) := by decide +kernel
theorem dX7_work_53 : decode cX7_work 53 = .ok (.aload 5, 2) := by decide +kernel
theorem dX7_work_55 : decode cX7_work 55 = .ok (.getfield 139, 3) := by decide +kernel
theorem dX7_work_58 : decode cX7_work 58 = .ok (.aload 6, 2) := by decide +kernel
theorem dX7_work_60 : decode cX7_work 60 = .ok (.getfield 139, 3) := by decide +kernel
theorem dX7_work_63 : decode cX7_work 63 = .ok (.invokestatic 143, 3) := by decide +kernel
theorem dX7_work_66 : decode cX7_work 66 = .ok (.istore 8, 2) := by decide +kernel
theorem dX7_work_68 : decode cX7_work 68 = .ok (.aload 5, 2) := by decide +kernel
theorem dX7_work_70 : decode cX7_work 70 = .ok (.getfield 139, 3) := by decide +kernel
theorem dX7_work_73 : decode cX7_work 73 = .ok (.aload 5, 2) := by decide +kernel
theorem dX7_work_75 : decode cX7_work 75 = .ok (.getfield 140, 3) := by decide +kernel
theorem dX7_work_78 : decode cX7_work 78 = .ok (.iload 8, 2) := by decide +kernel
theorem dX7_work_80 : decode cX7_work 80 = .ok (.invokestatic 72, 3) := by decide +kernel
theorem dX7_work_83 : decode cX7_work 83 = .ok (.lstore 9, 2) := by decide +kernel
theorem dX7_work_85 : decode cX7_work 85 = .ok (.aload 6, 2) := by decide +kernel
theorem dX7_work_87 : decode cX7_work 87 = .ok (.getfield 139, 3) := by decide +kernel
theorem dX7_work_90 : decode cX7_work 90 = .ok (.aload 6, 2) := by decide +kernel
theorem dX7_work_92 : decode cX7_work 92 = .ok (.getfield 140, 3) := by decide +kernel
theorem dX7_work_95 : decode cX7_work 95 = .ok (.iload 8, 2) := by decide +kernel
theorem dX7_work_97 : decode cX7_work 97 = .ok (.invokestatic 72, 3) := by decide +kernel
theorem dX7_work_100 : decode cX7_work 100 = .ok (.lstore 11, 2) := by decide +kernel
theorem dX7_work_102 : decode cX7_work 102 = .ok (.iload 8, 2) := by decide +kernel
theorem dX7_work_104 : decode cX7_work 104 = .ok (.iconst 1, 1) := by decide +kernel
theorem dX7_work_105 : decode cX7_work 105 = .ok (.if_icmp .gt 22, 3) := by decide +kernel
theorem dX7_work_108 : decode cX7_work 108 = .ok (.iload_n 1, 1) := by decide +kernel
theorem dX7_work_109 : decode cX7_work 109 = .ok (.iconst 3, 1) := by decide +kernel
theorem dX7_work_110 : decode cX7_work 110 = .ok (.if_icmp .lt 37, 3) := by decide +kernel
theorem dX7_work_113 : decode cX7_work 113 = .ok (.lload 11, 2) := by decide +kernel
theorem dX7_work_115 : decode cX7_work 115 = .ok (.lconst 0, 1) := by decide +kernel
theorem dX7_work_116 : decode cX7_work 116 = .ok (.lcmp, 1) := by decide +kernel
theorem dX7_work_117 : decode cX7_work 117 = .ok (.ifCond .ne 30, 3) := by decide +kernel
theorem dX7_work_120 : decode cX7_work 120 = .ok (.aload_n 0, 1) := by decide +kernel
theorem dX7_work_121 : decode cX7_work 121 = .ok (.bipush (-6), 2) := by decide +kernel
theorem dX7_work_123 : decode cX7_work 123 = .ok (.invokevirtual 68, 3) := by decide +kernel
theorem dX7_work_126 : decode cX7_work 126 = .ok (.ireturn, 1) := by decide +kernel
theorem dX7_work_127 : decode cX7_work 127 = .ok (.iload 8, 2) := by decide +kernel
theorem dX7_work_129 : decode cX7_work 129 = .ok (.iload_n 1, 1) := by decide +kernel
theorem dX7_work_130 : decode cX7_work 130 = .ok (.lload 9, 2) := by decide +kernel
theorem dX7_work_132 : decode cX7_work 132 = .ok (.lload 11, 2) := by decide +kernel
theorem dX7_work_134 : decode cX7_work 134 = .ok (.invokestatic 149, 3) := by decide +kernel
theorem dX7_work_137 : decode cX7_work 137 = .ok (.ifCond .eq 10, 3) := by decide +kernel
theorem dX7_work_140 : decode cX7_work 140 = .ok (.aload_n 0, 1) := by decide +kernel
theorem dX7_work_141 : decode cX7_work 141 = .ok (.bipush (-5), 2) := by decide +kernel
theorem dX7_work_143 : decode cX7_work 143 = .ok (.invokevirtual 68, 3) := by decide +kernel
theorem dX7_work_146 : decode cX7_work 146 = .ok (.ireturn, 1) := by decide +kernel
theorem dX7_work_147 : decode cX7_work 147 = .ok (.aload 7, 2) := by decide +kernel
theorem dX7_work_149 : decode cX7_work 149 = .ok (.iload 8, 2) := by decide +kernel
theorem dX7_work_151 : decode cX7_work 151 = .ok (.iload 8, 2) := by decide +kernel
theorem dX7_work_153 : decode cX7_work 153 = .ok (.iload_n 1, 1) := by decide +kernel
theorem dX7_work_154 : decode cX7_work 154 = .ok (.lload 9, 2) := by decide +kernel
theorem dX7_work_156 : decode cX7_work 156 = .ok (.lload 11, 2) := by decide +kernel
theorem dX7_work_158 : decode cX7_work 158 = .ok (.invokestatic 153, 3) := by decide +kernel
theorem dX7_work_161 : decode cX7_work 161 = .ok (.aload 7, 2) := by decide +kernel
theorem dX7_work_163 : decode cX7_work 163 = .ok (.getfield 139, 3) := by decide +kernel
theorem dX7_work_166 : decode cX7_work 166 = .ok (.invokestatic 72, 3) := by decide +kernel
theorem dX7_work_169 : decode cX7_work 169 = .ok (.putfield 140, 3) := by decide +kernel
theorem dX7_work_172 : decode cX7_work 172 = .ok (.aload_n 0, 1) := by decide +kernel
theorem dX7_work_173 : decode cX7_work 173 = .ok (.iconst 1, 1) := by decide +kernel
theorem dX7_work_174 : decode cX7_work 174 = .ok (.invokevirtual 84, 3) := by decide +kernel
theorem dX7_work_177 : decode cX7_work 177 = .ok (.ireturn, 1) := by decide +kernel
set_option maxRecDepth 20000 in
theorem ggX7_strip_X0_isKind : GoodIn wsX7_strip wsX0_isKind := goodIn_r _ [9] (by decide +kernel) (by decide +kernel)
set_option maxRecDepth 20000 in
theorem gX7_strip_X0_isKind : GoodIn wsX7_strip (va_wsS RX7 127 yX0_isKind wsX0_isKind) := goodIn_app (goodIn_of _ (by decide +kernel)) ggX7_strip_X0_isKind
set_option maxRecDepth 20000 in
theorem ggX7_strip_X7_refuse : GoodIn wsX7_strip wsX7_refuse := goodIn_r _ [14, 15, 16, 30, 31, 32, 33, 34, 35, 36, 37, 38, 39, 40, 41] (by decide +kernel) (by decide +kernel)
set_option maxRecDepth 20000 in
theorem gX7_strip_X7_refuse : GoodIn wsX7_strip (wsV RX7 68 RX7 yX7_refuse wsX7_refuse) := goodIn_app (goodIn_of _ (by decide +kernel)) ggX7_strip_X7_refuse
set_option maxRecDepth 20000 in
theorem ggX7_strip_X5_init : GoodIn wsX7_strip wsX5_init := goodIn_r _ [19, 20, 21, 22, 23, 24, 25, 42, 43] (by decide +kernel) (by decide +kernel)
set_option maxRecDepth 20000 in
theorem gX7_strip_X5_init : GoodIn wsX7_strip (wsX5_init) := ggX7_strip_X5_init
set_option maxRecDepth 20000 in
theorem ggX7_strip_X7_answer : GoodIn wsX7_strip wsX7_answer := goodIn_r _ [29, 15, 30, 31, 32, 33, 34, 35, 36, 37, 38, 39, 40, 41] (by decide +kernel) (by decide +kernel)
set_option maxRecDepth 20000 in
theorem gX7_strip_X7_answer : GoodIn wsX7_strip (wsV RX7 84 RX7 yX7_answer wsX7_answer) := goodIn_app (goodIn_of _ (by decide +kernel)) ggX7_strip_X7_answer
theorem dX7_strip_0 : decode cX7_strip 0 = .ok (.iload_n 1, 1) := by decide +kernel
theorem dX7_strip_1 : decode cX7_strip 1 = .ok (.invokestatic 127, 3) := by decide +kernel
theorem dX7_strip_4 : decode cX7_strip 4 = .ok (.ifCond .eq 13, 3) := by decide +kernel
theorem dX7_strip_7 : decode cX7_strip 7 = .ok (.iload_n 2, 1) := by decide +kernel
theorem dX7_strip_8 : decode cX7_strip 8 = .ok (.ifCond .lt 9, 3) := by decide +kernel
theorem dX7_strip_11 : decode cX7_strip 11 = .ok (.iload_n 2, 1) := by decide +kernel
theorem dX7_strip_12 : decode cX7_strip 12 = .ok (.bipush 16, 2) := by decide +kernel
theorem dX7_strip_14 : decode cX7_strip 14 = .ok (.if_icmp .le 10, 3) := by decide +kernel
theorem dX7_strip_17 : decode cX7_strip 17 = .ok (.aload_n 0, 1) := by decide +kernel
theorem dX7_strip_18 : decode cX7_strip 18 = .ok (.bipush (-2), 2) := by decide +kernel
theorem dX7_strip_20 : decode cX7_strip 20 = .ok (.invokevirtual 68, 3) := by decide +kernel
theorem dX7_strip_23 : decode cX7_strip 23 = .ok (.ireturn, 1) := by decide +kernel
theorem dX7_strip_24 : decode cX7_strip 24 = .ok (.aload_n 0, 1) := by decide +kernel
theorem dX7_strip_25 : decode cX7_strip 25 = .ok (.getfield 46, 3) := by decide +kernel
theorem dX7_strip_28 : decode cX7_strip 28 = .ok (.bipush 8, 2) := by decide +kernel
theorem dX7_strip_30 : decode cX7_strip 30 = .ok (.if_icmp .lt 10, 3) := by decide +kernel
theorem dX7_strip_33 : decode cX7_strip 33 = .ok (.aload_n 0, 1) := by decide +kernel
theorem dX7_strip_34 : decode cX7_strip 34 = .ok (.bipush (-3), 2) := by decide +kernel
theorem dX7_strip_36 : decode cX7_strip 36 = .ok (.invokevirtual 68, 3) := by decide +kernel
theorem dX7_strip_39 : decode cX7_strip 39 = .ok (.ireturn, 1) := by decide +kernel
theorem dX7_strip_40 : decode cX7_strip 40 = .ok (.aload_n 0, 1) := by decide +kernel
theorem dX7_strip_41 : decode cX7_strip 41 = .ok (.getfield 23, 3) := by decide +kernel
theorem dX7_strip_44 : decode cX7_strip 44 = .ok (.aload_n 0, 1) := by decide +kernel
theorem dX7_strip_45 : decode cX7_strip 45 = .ok (.getfield 46, 3) := by decide +kernel
theorem dX7_strip_48 : decode cX7_strip 48 = .ok (.new 21, 3) := by decide +kernel
theorem dX7_strip_51 : decode cX7_strip 51 = .ok (.dup, 1) := by decide +kernel
theorem dX7_strip_52 : decode cX7_strip 52 = .ok (.iload_n 1, 1) := by decide +kernel
theorem dX7_strip_53 : decode cX7_strip 53 = .ok (.iload_n 2, 1) := by decide +kernel
theorem dX7_strip_54 : decode cX7_strip 54 = .ok (.invokespecial 156, 3) := by decide +kernel
theorem dX7_strip_57 : decode cX7_strip 57 = .ok (.aastore, 1) := by decide +kernel
theorem dX7_strip_58 : decode cX7_strip 58 = .ok (.aload_n 0, 1) := by decide +kernel
theorem dX7_strip_59 : decode cX7_strip 59 = .ok (.aload_n 0, 1) := by decide +kernel
theorem dX7_strip_60 : decode cX7_strip 60 = .ok (.dup, 1) := by decide +kernel
theorem dX7_strip_61 : decode cX7_strip 61 = .ok (.getfield 46, 3) := by decide +kernel
theorem dX7_strip_64 : decode cX7_strip 64 = .ok (.dup_x1, 1) := by decide +kernel
theorem dX7_strip_65 : decode cX7_strip 65 = .ok (.iconst 1, 1) := by decide +kernel
theorem dX7_strip_66 : decode cX7_strip 66 = .ok (.iadd, 1) := by decide +kernel
theorem dX7_strip_67 : decode cX7_strip 67 = .ok (.putfield 46, 3) := by decide +kernel
theorem dX7_strip_70 : decode cX7_strip 70 = .ok (.invokevirtual 84, 3) := by decide +kernel
theorem dX7_strip_73 : decode cX7_strip 73 = .ok (.ireturn, 1) := by decide +kernel
set_option maxRecDepth 20000 in
theorem ggX7_tear_X7_stripAt : GoodIn wsX7_tear wsX7_stripAt := goodIn_r _ [6, 7, 8, 21, 22, 23, 24, 25, 26, 27, 28, 29, 30, 31, 32] (by decide +kernel) (by decide +kernel)
set_option maxRecDepth 20000 in
theorem gX7_tear_X7_stripAt : GoodIn wsX7_tear (wsV RX7 159 RX7 yX7_stripAt wsX7_stripAt) := goodIn_app (goodIn_of _ (by decide +kernel)) ggX7_tear_X7_stripAt
set_option maxRecDepth 20000 in
theorem ggX7_tear_X7_refuse : GoodIn wsX7_tear wsX7_refuse := goodIn_r _ [12, 13, 14, 21, 22, 23, 24, 25, 26, 27, 28, 29, 30, 31, 32] (by decide +kernel) (by decide +kernel)
set_option maxRecDepth 20000 in
theorem gX7_tear_X7_refuse : GoodIn wsX7_tear (wsV RX7 68 RX7 yX7_refuse wsX7_refuse) := goodIn_app (goodIn_of _ (by decide +kernel)) ggX7_tear_X7_refuse
set_option maxRecDepth 20000 in
theorem ggX7_tear_X7_answer : GoodIn wsX7_tear wsX7_answer := goodIn_r _ [18, 13, 21, 22, 23, 24, 25, 26, 27, 28, 29, 30, 31, 32] (by decide +kernel) (by decide +kernel)
set_option maxRecDepth 20000 in
theorem gX7_tear_X7_answer : GoodIn wsX7_tear (wsV RX7 84 RX7 yX7_answer wsX7_answer) := goodIn_app (goodIn_of _ (by decide +kernel)) ggX7_tear_X7_answer
theorem dX7_tear_0 : decode cX7_tear 0 = .ok (.aload_n 0, 1) := by decide +kernel
theorem dX7_tear_1 : decode cX7_tear 1 = .ok (.iload_n 1, 1) := by decide +kernel
theorem dX7_tear_2 : decode cX7_tear 2 = .ok (.invokevirtual 159, 3) := by decide +kernel
theorem dX7_tear_5 : decode cX7_tear 5 = .ok (.astore_n 2, 1) := by decide +kernel
theorem dX7_tear_6 : decode cX7_tear 6 = .ok (.aload_n 2, 1) := by decide +kernel
theorem dX7_tear_7 : decode cX7_tear 7 = .ok (.ifnonnull 10, 3) := by decide +kernel
theorem dX7_tear_10 : decode cX7_tear 10 = .ok (.aload_n 0, 1) := by decide +kernel
theorem dX7_tear_11 : decode cX7_tear 11 = .ok (.bipush (-2), 2) := by decide +kernel
theorem dX7_tear_13 : decode cX7_tear 13 = .ok (.invokevirtual 68, 3) := by decide +kernel
theorem dX7_tear_16 : decode cX7_tear 16 = .ok (.ireturn, 1) := by decide +kernel
theorem dX7_tear_17 : decode cX7_tear 17 = .ok (.aload_n 2, 1) := by decide +kernel
theorem dX7_tear_18 : decode cX7_tear 18 = .ok (.getfield 163, 3) := by decide +kernel
theorem dX7_tear_21 : decode cX7_tear 21 = .ok (.ifnonnull 7, 3) := by decide +kernel
theorem dX7_tear_24 : decode cX7_tear 24 = .ok (.iconst 1, 1) := by decide +kernel
theorem dX7_tear_25 : decode cX7_tear 25 = .ok (.goto 4, 3) := by decide +kernel
theorem dX7_tear_28 : decode cX7_tear 28 = .ok (.iconst 0, 1) := by decide +kernel
theorem dX7_tear_29 : decode cX7_tear 29 = .ok (.istore_n 3, 1) := by decide +kernel
theorem dX7_tear_30 : decode cX7_tear 30 = .ok (.aload_n 2, 1) := by decide +kernel
theorem dX7_tear_31 : decode cX7_tear 31 = .ok (.aconst_null, 1) := by decide +kernel
theorem dX7_tear_32 : decode cX7_tear 32 = .ok (.putfield 163, 3) := by decide +kernel
theorem dX7_tear_35 : decode cX7_tear 35 = .ok (.aload_n 0, 1) := by decide +kernel
theorem dX7_tear_36 : decode cX7_tear 36 = .ok (.iload_n 3, 1) := by decide +kernel
theorem dX7_tear_37 : decode cX7_tear 37 = .ok (.ifCond .eq 7, 3) := by decide +kernel
theorem dX7_tear_40 : decode cX7_tear 40 = .ok (.iconst 0, 1) := by decide +kernel
theorem dX7_tear_41 : decode cX7_tear 41 = .ok (.goto 4, 3) := by decide +kernel
theorem dX7_tear_44 : decode cX7_tear 44 = .ok (.iconst 1, 1) := by decide +kernel
theorem dX7_tear_45 : decode cX7_tear 45 = .ok (.invokevirtual 84, 3) := by decide +kernel
theorem dX7_tear_48 : decode cX7_tear 48 = .ok (.ireturn, 1) := by decide +kernel
set_option maxRecDepth 20000 in
theorem ggX7_keep_X7_stripAt : GoodIn wsX7_keep wsX7_stripAt := goodIn_r _ [9, 10, 11, 105, 106, 107, 108, 109, 110, 111, 112, 113, 114, 115, 116] (by decide +kernel) (by decide +kernel)
set_option maxRecDepth 20000 in
theorem gX7_keep_X7_stripAt : GoodIn wsX7_keep (wsV RX7 159 RX7 yX7_stripAt wsX7_stripAt) := goodIn_app (goodIn_of _ (by decide +kernel)) ggX7_keep_X7_stripAt
set_option maxRecDepth 20000 in
theorem ggX7_keep_X7_registerAt : GoodIn wsX7_keep wsX7_registerAt := goodIn_r _ [15, 16, 17, 105, 106, 107, 108, 109, 110, 111, 112, 113, 114, 115, 116] (by decide +kernel) (by decide +kernel)
set_option maxRecDepth 20000 in
theorem gX7_keep_X7_registerAt : GoodIn wsX7_keep (wsV RX7 134 RX7 yX7_registerAt wsX7_registerAt) := goodIn_app (goodIn_of _ (by decide +kernel)) ggX7_keep_X7_registerAt
set_option maxRecDepth 20000 in
theorem ggX7_keep_X0_isKind : GoodIn wsX7_keep wsX0_isKind := goodIn_r _ [21] (by decide +kernel) (by decide +kernel)
set_option maxRecDepth 20000 in
theorem gX7_keep_X0_isKind : GoodIn wsX7_keep (va_wsS RX7 127 yX0_isKind wsX0_isKind) := goodIn_app (goodIn_of _ (by decide +kernel)) ggX7_keep_X0_isKind
set_option maxRecDepth 20000 in
theorem ggX7_keep_X7_refuse : GoodIn wsX7_keep wsX7_refuse := goodIn_r _ [25, 26, 27, 105, 106, 107, 108, 109, 110, 111, 112, 113, 114, 115, 116] (by decide +kernel) (by decide +kernel)
set_option maxRecDepth 20000 in
theorem gX7_keep_X7_refuse : GoodIn wsX7_keep (wsV RX7 68 RX7 yX7_refuse wsX7_refuse) := goodIn_app (goodIn_of _ (by decide +kernel)) ggX7_keep_X7_refuse
set_option maxRecDepth 20000 in
theorem ggX7_keep_X0_cast : GoodIn wsX7_keep wsX0_cast := goodIn_r _ [30, 31, 32, 20, 33, 34, 35, 36, 37, 38, 39, 40, 41, 42, 43, 44, 45, 46, 47, 48, 49, 50, 51, 52, 53, 54, 55, 56, 57, 58, 59, 60, 61, 62, 63, 64, 65, 66, 67, 68, 69, 70, 71, 72, 73, 74, 75, 76, 77, 78, 79, 80, 81, 82, 83, 84, 85, 86, 87, 88, 89, 90, 91, 92, 93, 94, 95, 96] (by decide +kernel) (by decide +kernel)
set_option maxRecDepth 20000 in
theorem gX7_keep_X0_cast : GoodIn wsX7_keep (va_wsS RX7 72 yX0_cast wsX0_cast) := goodIn_app (goodIn_of _ (by decide +kernel)) ggX7_keep_X0_cast
set_option maxRecDepth 20000 in
theorem ggX7_keep_X7_answer : GoodIn wsX7_keep wsX7_answer := goodIn_r _ [100, 26, 105, 106, 107, 108, 109, 110, 111, 112, 113, 114, 115, 116] (by decide +kernel) (by decide +kernel)
set_option maxRecDepth 20000 in
theorem gX7_keep_X7_answer : GoodIn wsX7_keep (wsV RX7 84 RX7 yX7_answer wsX7_answer) := goodIn_app (goodIn_of _ (by decide +kernel)) ggX7_keep_X7_answer
theorem dX7_keep_0 : decode cX7_keep 0 = .ok (.aload_n 0, 1) := by decide +kernel
theorem dX7_keep_1 : decode cX7_keep 1 = .ok (.iload_n 1, 1) := by decide +kernel
theorem dX7_keep_2 : decode cX7_keep 2 = .ok (.invokevirtual 159, 3) := by decide +kernel
theorem dX7_keep_5 : decode cX7_keep 5 = .ok (.astore 5, 2) := by decide +kernel
theorem dX7_keep_7 : decode cX7_keep 7 = .ok (.aload_n 0, 1) := by decide +kernel
theorem dX7_keep_8 : decode cX7_keep 8 = .ok (.iload 4, 2) := by decide +kernel
theorem dX7_keep_10 : decode cX7_keep 10 = .ok (.invokevirtual 134, 3) := by decide +kernel
theorem dX7_keep_13 : decode cX7_keep 13 = .ok (.astore 6, 2) := by decide +kernel
theorem dX7_keep_15 : decode cX7_keep 15 = .ok (.aload 5, 2) := by decide +kernel
theorem dX7_keep_17 : decode cX7_keep 17 = .ok (.ifnull 15, 3) := by decide +kernel
theorem dX7_keep_20 : decode cX7_keep 20 = .ok (.iload_n 2, 1) := by decide +kernel
theorem dX7_keep_21 : decode cX7_keep 21 = .ok (.invokestatic 127, 3) := by decide +kernel
theorem dX7_keep_24 : decode cX7_keep 24 = .ok (.ifCond .eq 8, 3) := by decide +kernel
theorem dX7_keep_27 : decode cX7_keep 27 = .ok (.aload 6, 2) := by decide +kernel
theorem dX7_keep_29 : decode cX7_keep 29 = .ok (.ifnonnull 10, 3) := by decide +kernel
theorem dX7_keep_32 : decode cX7_keep 32 = .ok (.aload_n 0, 1) := by decide +kernel
theorem dX7_keep_33 : decode cX7_keep 33 = .ok (.bipush (-2), 2) := by decide +kernel
theorem dX7_keep_35 : decode cX7_keep 35 = .ok (.invokevirtual 68, 3) := by decide +kernel
theorem dX7_keep_38 : decode cX7_keep 38 = .ok (.ireturn, 1) := by decide +kernel
theorem dX7_keep_39 : decode cX7_keep 39 = .ok (.aload 5, 2) := by decide +kernel
theorem dX7_keep_41 : decode cX7_keep 41 = .ok (.getfield 163, 3) := by decide +kernel
theorem dX7_keep_44 : decode cX7_keep 44 = .ok (.astore 7, 2) := by decide +kernel
theorem dX7_keep_46 : decode cX7_keep 46 = .ok (.aload 7, 2) := by decide +kernel
theorem dX7_keep_48 : decode cX7_keep 48 = .ok (.ifnonnull 10, 3) := by decide +kernel
theorem dX7_keep_51 : decode cX7_keep 51 = .ok (.aload_n 0, 1) := by decide +kernel
theorem dX7_keep_52 : decode cX7_keep 52 = .ok (.bipush (-10), 2) := by decide +kernel
theorem dX7_keep_54 : decode cX7_keep 54 = .ok (.invokevirtual 68, 3) := by decide +kernel
theorem dX7_keep_57 : decode cX7_keep 57 = .ok (.ireturn, 1) := by decide +kernel
theorem dX7_keep_58 : decode cX7_keep 58 = .ok (.aload 5, 2) := by decide +kernel
theorem dX7_keep_60 : decode cX7_keep 60 = .ok (.getfield 167, 3) := by decide +kernel
theorem dX7_keep_63 : decode cX7_keep 63 = .ok (.iload_n 2, 1) := by decide +kernel
theorem dX7_keep_64 : decode cX7_keep 64 = .ok (.if_icmp .eq 10, 3) := by decide +kernel
theorem dX7_keep_67 : decode cX7_keep 67 = .ok (.aload_n 0, 1) := by decide +kernel
theorem dX7_keep_68 : decode cX7_keep 68 = .ok (.bipush (-7), 2) := by decide +kernel
theorem dX7_keep_70 : decode cX7_keep 70 = .ok (.invokevirtual 68, 3) := by decide +kernel
theorem dX7_keep_73 : decode cX7_keep 73 = .ok (.ireturn, 1) := by decide +kernel
theorem dX7_keep_74 : decode cX7_keep 74 = .ok (.iload_n 3, 1) := by decide +kernel
theorem dX7_keep_75 : decode cX7_keep 75 = .ok (.ifCond .lt 10, 3) := by decide +kernel
theorem dX7_keep_78 : decode cX7_keep 78 = .ok (.iload_n 3, 1) := by decide +kernel
theorem dX7_keep_79 : decode cX7_keep 79 = .ok (.aload 7, 2) := by decide +kernel
theorem dX7_keep_81 : decode cX7_keep 81 = .ok (.arraylength, 1) := by decide +kernel
theorem dX7_keep_82 : decode cX7_keep 82 = .ok (.if_icmp .lt 10, 3) := by decide +kernel
theorem dX7_keep_85 : decode cX7_keep 85 = .ok (.aload_n 0, 1) := by decide +kernel
theorem dX7_keep_86 : decode cX7_keep 86 = .ok (.bipush (-8), 2) := by decide +kernel
theorem dX7_keep_88 : decode cX7_keep 88 = .ok (.invokevirtual 68, 3) := by decide +kernel
theorem dX7_keep_91 : decode cX7_keep 91 = .ok (.ireturn, 1) := by decide +kernel
theorem dX7_keep_92 : decode cX7_keep 92 = .ok (.aload 7, 2) := by decide +kernel
theorem dX7_keep_94 : decode cX7_keep 94 = .ok (.iload_n 3, 1) := by decide +kernel
theorem dX7_keep_95 : decode cX7_keep 95 = .ok (.aload 6, 2) := by decide +kernel
theorem dX7_keep_97 : decode cX7_keep 97 = .ok (.getfield 139, 3) := by decide +kernel
theorem dX7_keep_100 : decode cX7_keep 100 = .ok (.aload 6, 2) := by decide +kernel
theorem dX7_keep_102 : decode cX7_keep 102 = .ok (.getfield 140, 3) := by decide +kernel
theorem dX7_keep_105 : decode cX7_keep 105 = .ok (.iload_n 2, 1) := by decide +kernel
theorem dX7_keep_106 : decode cX7_keep 106 = .ok (.invokestatic 72, 3) := by decide +kernel
theorem dX7_keep_109 : decode cX7_keep 109 = .ok (.lastore, 1) := by decide +kernel
theorem dX7_keep_110 : decode cX7_keep 110 = .ok (.aload_n 0, 1) := by decide +kernel
theorem dX7_keep_111 : decode cX7_keep 111 = .ok (.iconst 1, 1) := by decide +kernel
theorem dX7_keep_112 : decode cX7_keep 112 = .ok (.invokevirtual 84, 3) := by decide +kernel
theorem dX7_keep_115 : decode cX7_keep 115 = .ok (.ireturn, 1) := by decide +kernel
set_option maxRecDepth 20000 in
theorem ggX7_kept_X7_stripAt : GoodIn wsX7_kept wsX7_stripAt := goodIn_r _ [7, 8, 9, 30, 31, 32, 33, 34, 35, 36, 37, 38, 39, 40, 41] (by decide +kernel) (by decide +kernel)
set_option maxRecDepth 20000 in
theorem gX7_kept_X7_stripAt : GoodIn wsX7_kept (wsV RX7 159 RX7 yX7_stripAt wsX7_stripAt) := goodIn_app (goodIn_of _ (by decide +kernel)) ggX7_kept_X7_stripAt
set_option maxRecDepth 20000 in
theorem ggX7_kept_X0_isKind : GoodIn wsX7_kept wsX0_isKind := goodIn_r _ [13] (by decide +kernel) (by decide +kernel)
set_option maxRecDepth 20000 in
theorem gX7_kept_X0_isKind : GoodIn wsX7_kept (va_wsS RX7 127 yX0_isKind wsX0_isKind) := goodIn_app (goodIn_of _ (by decide +kernel)) ggX7_kept_X0_isKind
set_option maxRecDepth 20000 in
theorem ggX7_kept_X7_refuseAnyNumber : GoodIn wsX7_kept wsX7_refuseAnyNumber := goodIn_r _ [17, 18, 19, 20, 6, 21, 22, 23, 30, 31, 32, 33, 34, 35, 36, 37, 38, 39, 40, 41] (by decide +kernel) (by decide +kernel)
set_option maxRecDepth 20000 in
theorem gX7_kept_X7_refuseAnyNumber : GoodIn wsX7_kept (wsV RX7 91 RX7 yX7_refuseAnyNumber wsX7_refuseAnyNumber) := goodIn_app (goodIn_of _ (by decide +kernel)) ggX7_kept_X7_refuseAnyNumber
set_option maxRecDepth 20000 in
theorem ggX7_kept_X7_answerLong : GoodIn wsX7_kept wsX7_answerLong := goodIn_r _ [27, 22, 30, 31, 32, 33, 34, 35, 36, 37, 38, 39, 40, 41] (by decide +kernel) (by decide +kernel)
set_option maxRecDepth 20000 in
theorem gX7_kept_X7_answerLong : GoodIn wsX7_kept (wsV RX7 123 RX7 yX7_answerLong wsX7_answerLong) := goodIn_app (goodIn_of _ (by decide +kernel)) ggX7_kept_X7_answerLong
theorem dX7_kept_0 : decode cX7_kept 0 = .ok (.aload_n 0, 1) := by decide +kernel
theorem dX7_kept_1 : decode cX7_kept 1 = .ok (.iload_n 1, 1) := by decide +kernel
theorem dX7_kept_2 : decode cX7_kept 2 = .ok (.invokevirtual 159, 3) := by decide +kernel
theorem dX7_kept_5 : decode cX7_kept 5 = .ok (.astore 4, 2) := by decide +kernel
theorem dX7_kept_7 : decode cX7_kept 7 = .ok (.aload 4, 2) := by decide +kernel
theorem dX7_kept_9 : decode cX7_kept 9 = .ok (.ifnull 10, 3) := by decide +kernel
theorem dX7_kept_12 : decode cX7_kept 12 = .ok (.iload_n 2, 1) := by decide +kernel
theorem dX7_kept_13 : decode cX7_kept 13 = .ok (.invokestatic 127, 3) := by decide +kernel
theorem dX7_kept_16 : decode cX7_kept 16 = .ok (.ifCond .ne 11, 3) := by decide +kernel
theorem dX7_kept_19 : decode cX7_kept 19 = .ok (.aload_n 0, 1) := by decide +kernel
theorem dX7_kept_20 : decode cX7_kept 20 = .ok (.bipush (-2), 2) := by decide +kernel
theorem dX7_kept_22 : decode cX7_kept 22 = .ok (.invokevirtual 91, 3) := by decide +kernel
theorem dX7_kept_25 : decode cX7_kept 25 = .ok (.i2l, 1) := by decide +kernel
theorem dX7_kept_26 : decode cX7_kept 26 = .ok (.lreturn, 1) := by decide +kernel
theorem dX7_kept_27 : decode cX7_kept 27 = .ok (.aload 4, 2) := by decide +kernel
theorem dX7_kept_29 : decode cX7_kept 29 = .ok (.getfield 163, 3) := by decide +kernel
theorem dX7_kept_32 : decode cX7_kept 32 = .ok (.astore 5, 2) := by decide +kernel
theorem dX7_kept_34 : decode cX7_kept 34 = .ok (.aload 5, 2) := by decide +kernel
theorem dX7_kept_36 : decode cX7_kept 36 = .ok (.ifnonnull 11, 3) := by decide +kernel
theorem dX7_kept_39 : decode cX7_kept 39 = .ok (.aload_n 0, 1) := by decide +kernel
theorem dX7_kept_40 : decode cX7_kept 40 = .ok (.bipush (-10), 2) := by decide +kernel
theorem dX7_kept_42 : decode cX7_kept 42 = .ok (.invokevirtual 91, 3) := by decide +kernel
theorem dX7_kept_45 : decode cX7_kept 45 = .ok (.i2l, 1) := by decide +kernel
theorem dX7_kept_46 : decode cX7_kept 46 = .ok (.lreturn, 1) := by decide +kernel
theorem dX7_kept_47 : decode cX7_kept 47 = .ok (.aload 4, 2) := by decide +kernel
theorem dX7_kept_49 : decode cX7_kept 49 = .ok (.getfield 167, 3) := by decide +kernel
theorem dX7_kept_52 : decode cX7_kept 52 = .ok (.iload_n 2, 1) := by decide +kernel
theorem dX7_kept_53 : decode cX7_kept 53 = .ok (.if_icmp .eq 11, 3) := by decide +kernel
theorem dX7_kept_56 : decode cX7_kept 56 = .ok (.aload_n 0, 1) := by decide +kernel
theorem dX7_kept_57 : decode cX7_kept 57 = .ok (.bipush (-7), 2) := by decide +kernel
theorem dX7_kept_59 : decode cX7_kept 59 = .ok (.invokevirtual 91, 3) := by decide +kernel
theorem dX7_kept_62 : decode cX7_kept 62 = .ok (.i2l, 1) := by decide +kernel
theorem dX7_kept_63 : decode cX7_kept 63 = .ok (.lreturn, 1) := by decide +kernel
theorem dX7_kept_64 : decode cX7_kept 64 = .ok (.iload_n 3, 1) := by decide +kernel
theorem dX7_kept_65 : decode cX7_kept 65 = .ok (.ifCond .lt 10, 3) := by decide +kernel
theorem dX7_kept_68 : decode cX7_kept 68 = .ok (.iload_n 3, 1) := by decide +kernel
theorem dX7_kept_69 : decode cX7_kept 69 = .ok (.aload 5, 2) := by decide +kernel
theorem dX7_kept_71 : decode cX7_kept 71 = .ok (.arraylength, 1) := by decide +kernel
theorem dX7_kept_72 : decode cX7_kept 72 = .ok (.if_icmp .lt 11, 3) := by decide +kernel
theorem dX7_kept_75 : decode cX7_kept 75 = .ok (.aload_n 0, 1) := by decide +kernel
theorem dX7_kept_76 : decode cX7_kept 76 = .ok (.bipush (-8), 2) := by decide +kernel
theorem dX7_kept_78 : decode cX7_kept 78 = .ok (.invokevirtual 91, 3) := by decide +kernel
theorem dX7_kept_81 : decode cX7_kept 81 = .ok (.i2l, 1) := by decide +kernel
theorem dX7_kept_82 : decode cX7_kept 82 = .ok (.lreturn, 1) := by decide +kernel
theorem dX7_kept_83 : decode cX7_kept 83 = .ok (.aload_n 0, 1) := by decide +kernel
theorem dX7_kept_84 : decode cX7_kept 84 = .ok (.aload 5, 2) := by decide +kernel
theorem dX7_kept_86 : decode cX7_kept 86 = .ok (.iload_n 3, 1) := by decide +kernel
theorem dX7_kept_87 : decode cX7_kept 87 = .ok (.laload, 1) := by decide +kernel
theorem dX7_kept_88 : decode cX7_kept 88 = .ok (.invokevirtual 123, 3) := by decide +kernel
theorem dX7_kept_91 : decode cX7_kept 91 = .ok (.lreturn, 1) := by decide +kernel
set_option maxRecDepth 20000 in
theorem ggX7_rests_X7_stripAt : GoodIn wsX7_rests wsX7_stripAt := goodIn_r _ [9, 10, 11, 123, 124, 125, 126, 127, 128, 129, 130, 131, 132, 133, 134] (by decide +kernel) (by decide +kernel)
set_option maxRecDepth 20000 in
theorem gX7_rests_X7_stripAt : GoodIn wsX7_rests (wsV RX7 159 RX7 yX7_stripAt wsX7_stripAt) := goodIn_app (goodIn_of _ (by decide +kernel)) ggX7_rests_X7_stripAt
set_option maxRecDepth 20000 in
theorem ggX7_rests_X7_registerAt : GoodIn wsX7_rests wsX7_registerAt := goodIn_r _ [15, 16, 17, 123, 124, 125, 126, 127, 128, 129, 130, 131, 132, 133, 134] (by decide +kernel) (by decide +kernel)
set_option maxRecDepth 20000 in
theorem gX7_rests_X7_registerAt : GoodIn wsX7_rests (wsV RX7 134 RX7 yX7_registerAt wsX7_registerAt) := goodIn_app (goodIn_of _ (by decide +kernel)) ggX7_rests_X7_registerAt
set_option maxRecDepth 20000 in
theorem ggX7_rests_X7_refuse : GoodIn wsX7_rests wsX7_refuse := goodIn_r _ [21, 22, 23, 123, 124, 125, 126, 127, 128, 129, 130, 131, 132, 133, 134] (by decide +kernel) (by decide +kernel)
set_option maxRecDepth 20000 in
theorem gX7_rests_X7_refuse : GoodIn wsX7_rests (wsV RX7 68 RX7 yX7_refuse wsX7_refuse) := goodIn_app (goodIn_of _ (by decide +kernel)) ggX7_rests_X7_refuse
set_option maxRecDepth 20000 in
theorem ggX7_rests_X2_isVoid : GoodIn wsX7_rests wsX2_isVoid := goodIn_r _ [27, 28, 29, 26, 30, 31, 32, 33, 34, 35, 36, 37, 38, 39, 40, 41, 42, 43, 44, 45, 46] (by decide +kernel) (by decide +kernel)
set_option maxRecDepth 20000 in
theorem gX7_rests_X2_isVoid : GoodIn wsX7_rests (va_wsS RX7 149 yX2_isVoid wsX2_isVoid) := goodIn_app (goodIn_of _ (by decide +kernel)) ggX7_rests_X2_isVoid
set_option maxRecDepth 20000 in
theorem ggX7_rests_X2_restOf : GoodIn wsX7_rests wsX2_restOf := goodIn_r _ [49, 31, 32, 26, 33, 34, 35, 36, 37, 38, 50, 51, 52, 53, 54, 55, 56, 57, 58, 59, 60, 61, 62, 63, 64, 65, 66, 67, 68, 69, 70, 71, 72, 73, 74, 75, 76, 77, 78, 79, 80, 81, 82, 83, 84, 85, 86, 87] (by decide +kernel) (by decide +kernel)
set_option maxRecDepth 20000 in
theorem gX7_rests_X2_restOf : GoodIn wsX7_rests (va_wsS RX7 119 yX2_restOf wsX2_restOf) := goodIn_app (goodIn_of _ (by decide +kernel)) ggX7_rests_X2_restOf
set_option maxRecDepth 20000 in
theorem ggX7_rests_X2_valueOf : GoodIn wsX7_rests wsX2_valueOf := goodIn_r _ [90, 31, 32, 26, 33, 34, 35, 36, 37, 38, 57, 58, 59, 60, 61, 62, 63, 64, 65, 66, 67, 55, 68, 91, 92, 93, 94, 95, 96, 97] (by decide +kernel) (by decide +kernel)
set_option maxRecDepth 20000 in
theorem gX7_rests_X2_valueOf : GoodIn wsX7_rests (va_wsS RX7 97 yX2_valueOf wsX2_valueOf) := goodIn_app (goodIn_of _ (by decide +kernel)) ggX7_rests_X2_valueOf
set_option maxRecDepth 20000 in
theorem ggX7_rests_X2_worked : GoodIn wsX7_rests wsX2_worked := goodIn_r _ [100, 101, 102, 26, 103] (by decide +kernel) (by decide +kernel)
set_option maxRecDepth 20000 in
theorem gX7_rests_X2_worked : GoodIn wsX7_rests (va_wsS RX7 105 yX2_worked wsX2_worked) := goodIn_app (goodIn_of _ (by decide +kernel)) ggX7_rests_X2_worked
set_option maxRecDepth 20000 in
theorem ggX7_rests_X0_castReal : GoodIn wsX7_rests wsX0_castReal := goodIn_r _ [107, 108, 109, 26, 110, 111, 112, 113, 114, 97, 39, 40, 41, 42, 43, 72, 73, 74, 75, 76, 77, 78, 79, 80, 60, 61, 62, 91, 92, 93, 81, 82, 83, 84, 85, 86, 87, 34, 35, 36, 37, 38] (by decide +kernel) (by decide +kernel)
set_option maxRecDepth 20000 in
theorem gX7_rests_X0_castReal : GoodIn wsX7_rests (va_wsS RX7 170 yX0_castReal wsX0_castReal) := goodIn_app (goodIn_of _ (by decide +kernel)) ggX7_rests_X0_castReal
set_option maxRecDepth 20000 in
theorem ggX7_rests_X7_answer : GoodIn wsX7_rests wsX7_answer := goodIn_r _ [118, 22, 123, 124, 125, 126, 127, 128, 129, 130, 131, 132, 133, 134] (by decide +kernel) (by decide +kernel)
set_option maxRecDepth 20000 in
theorem gX7_rests_X7_answer : GoodIn wsX7_rests (wsV RX7 84 RX7 yX7_answer wsX7_answer) := goodIn_app (goodIn_of _ (by decide +kernel)) ggX7_rests_X7_answer
theorem dX7_rests_0 : decode cX7_rests 0 = .ok (.aload_n 0, 1) := by decide +kernel
theorem dX7_rests_1 : decode cX7_rests 1 = .ok (.iload_n 1, 1) := by decide +kernel
theorem dX7_rests_2 : decode cX7_rests 2 = .ok (.invokevirtual 159, 3) := by decide +kernel
theorem dX7_rests_5 : decode cX7_rests 5 = .ok (.astore_n 3, 1) := by decide +kernel
theorem dX7_rests_6 : decode cX7_rests 6 = .ok (.aload_n 0, 1) := by decide +kernel
theorem dX7_rests_7 : decode cX7_rests 7 = .ok (.iload_n 2, 1) := by decide +kernel
theorem dX7_rests_8 : decode cX7_rests 8 = .ok (.invokevirtual 134, 3) := by decide +kernel
theorem dX7_rests_11 : decode cX7_rests 11 = .ok (.astore 4, 2) := by decide +kernel
theorem dX7_rests_13 : decode cX7_rests 13 = .ok (.aload_n 3, 1) := by decide +kernel
theorem dX7_rests_14 : decode cX7_rests 14 = .ok (.ifnull 8, 3) := by decide +kernel
theorem dX7_rests_17 : decode cX7_rests 17 = .ok (.aload 4, 2) := by decide +kernel
theorem dX7_rests_19 : decode cX7_rests 19 = .ok (.ifnonnull 10, 3) := by decide +kernel
theorem dX7_rests_22 : decode cX7_rests 22 = .ok (.aload_n 0, 1) := by decide +kernel
theorem dX7_rests_23 : decode cX7_rests 23 = .ok (.bipush (-2), 2) := by decide +kernel
theorem dX7_rests_25 : decode cX7_rests 25 = .ok (.invokevirtual 68, 3) := by decide +kernel
theorem dX7_rests_28 : decode cX7_rests 28 = .ok (.ireturn, 1) := by decide +kernel
theorem dX7_rests_29 : decode cX7_rests 29 = .ok (.aload_n 3, 1) := by decide +kernel
theorem dX7_rests_30 : decode cX7_rests 30 = .ok (.getfield 163, 3) := by decide +kernel
theorem dX7_rests_33 : decode cX7_rests 33 = .ok (.astore 5, 2) := by decide +kernel
theorem dX7_rests_35 : decode cX7_rests 35 = .ok (.aload 5, 2) := by decide +kernel
theorem dX7_rests_37 : decode cX7_rests 37 = .ok (.ifnonnull 10, 3) := by decide +kernel
theorem dX7_rests_40 : decode cX7_rests 40 = .ok (.aload_n 0, 1) := by decide +kernel
theorem dX7_rests_41 : decode cX7_rests 41 = .ok (.bipush (-10), 2) := by decide +kernel
theorem dX7_rests_43 : decode cX7_rests 43 = .ok (.invokevirtual 68, 3) := by decide +kernel
theorem dX7_rests_46 : decode cX7_rests 46 = .ok (.ireturn, 1) := by decide +kernel
theorem dX7_rests_47 : decode cX7_rests 47 = .ok (.aload_n 3, 1) := by decide +kernel
theorem dX7_rests_48 : decode cX7_rests 48 = .ok (.getfield 167, 3) := by decide +kernel
theorem dX7_rests_51 : decode cX7_rests 51 = .ok (.istore 6, 2) := by decide +kernel
theorem dX7_rests_53 : decode cX7_rests 53 = .ok (.iload 6, 2) := by decide +kernel
theorem dX7_rests_55 : decode cX7_rests 55 = .ok (.iconst 1, 1) := by decide +kernel
theorem dX7_rests_56 : decode cX7_rests 56 = .ok (.if_icmp .gt 10, 3) := by decide +kernel
theorem dX7_rests_59 : decode cX7_rests 59 = .ok (.aload_n 0, 1) := by decide +kernel
theorem dX7_rests_60 : decode cX7_rests 60 = .ok (.bipush (-7), 2) := by decide +kernel
theorem dX7_rests_62 : decode cX7_rests 62 = .ok (.invokevirtual 68, 3) := by decide +kernel
theorem dX7_rests_65 : decode cX7_rests 65 = .ok (.ireturn, 1) := by decide +kernel
theorem dX7_rests_66 : decode cX7_rests 66 = .ok (.dconst 0, 1) := by decide +kernel
theorem dX7_rests_67 : decode cX7_rests 67 = .ok (.dstore 7, 2) := by decide +kernel
theorem dX7_rests_69 : decode cX7_rests 69 = .ok (.iconst 0, 1) := by decide +kernel
theorem dX7_rests_70 : decode cX7_rests 70 = .ok (.istore 9, 2) := by decide +kernel
theorem dX7_rests_72 : decode cX7_rests 72 = .ok (.iconst 0, 1) := by decide +kernel
theorem dX7_rests_73 : decode cX7_rests 73 = .ok (.istore 10, 2) := by decide +kernel
theorem dX7_rests_75 : decode cX7_rests 75 = .ok (.iload 10, 2) := by decide +kernel
theorem dX7_rests_77 : decode cX7_rests 77 = .ok (.iconst 1, 1) := by decide +kernel
theorem dX7_rests_78 : decode cX7_rests 78 = .ok (.iadd, 1) := by decide +kernel
theorem dX7_rests_79 : decode cX7_rests 79 = .ok (.aload 5, 2) := by decide +kernel
theorem dX7_rests_81 : decode cX7_rests 81 = .ok (.arraylength, 1) := by decide +kernel
theorem dX7_rests_82 : decode cX7_rests 82 = .ok (.if_icmp .ge 69, 3) := by decide +kernel
theorem dX7_rests_85 : decode cX7_rests 85 = .ok (.iload 6, 2) := by decide +kernel
theorem dX7_rests_87 : decode cX7_rests 87 = .ok (.iconst 4, 1) := by decide +kernel
theorem dX7_rests_88 : decode cX7_rests 88 = .ok (.aload 5, 2) := by decide +kernel
theorem dX7_rests_90 : decode cX7_rests 90 = .ok (.iload 10, 2) := by decide +kernel
theorem dX7_rests_92 : decode cX7_rests 92 = .ok (.laload, 1) := by decide +kernel
theorem dX7_rests_93 : decode cX7_rests 93 = .ok (.aload 5, 2) := by decide +kernel
theorem dX7_rests_95 : decode cX7_rests 95 = .ok (.iload 10, 2) := by decide +kernel
theorem dX7_rests_97 : decode cX7_rests 97 = .ok (.iconst 1, 1) := by decide +kernel
theorem dX7_rests_98 : decode cX7_rests 98 = .ok (.iadd, 1) := by decide +kernel
theorem dX7_rests_99 : decode cX7_rests 99 = .ok (.laload, 1) := by decide +kernel
theorem dX7_rests_100 : decode cX7_rests 100 = .ok (.invokestatic 149, 3) := by decide +kernel
theorem dX7_rests_103 : decode cX7_rests 103 = .ok (.ifCond .ne 42, 3) := by decide +kernel
theorem dX7_rests_106 : decode cX7_rests 106 = .ok (.iload 6, 2) := by decide +kernel
theorem dX7_rests_108 : decode cX7_rests 108 = .ok (.aload 5, 2) := by decide +kernel
theorem dX7_rests_110 : decode cX7_rests 110 = .ok (.iload 10, 2) := by decide +kernel
theorem dX7_rests_112 : decode cX7_rests 112 = .ok (.laload, 1) := by decide +kernel
theorem dX7_rests_113 : decode cX7_rests 113 = .ok (.aload 5, 2) := by decide +kernel
theorem dX7_rests_115 : decode cX7_rests 115 = .ok (.iload 10, 2) := by decide +kernel
theorem dX7_rests_117 : decode cX7_rests 117 = .ok (.iconst 1, 1) := by decide +kernel
theorem dX7_rests_118 : decode cX7_rests 118 = .ok (.iadd, 1) := by decide +kernel
theorem dX7_rests_119 : decode cX7_rests 119 = .ok (.laload, 1) := by decide +kernel
theorem dX7_rests_120 : decode cX7_rests 120 = .ok (.invokestatic 119, 3) := by decide +kernel
theorem dX7_rests_123 : decode cX7_rests 123 = .ok (.lstore 11, 2) := by decide +kernel
theorem dX7_rests_125 : decode cX7_rests 125 = .ok (.iload 6, 2) := by decide +kernel
theorem dX7_rests_127 : decode cX7_rests 127 = .ok (.iconst 0, 1) := by decide +kernel
theorem dX7_rests_128 : decode cX7_rests 128 = .ok (.dload 7, 2) := by decide +kernel
theorem dX7_rests_130 : decode cX7_rests 130 = .ok (.iload 6, 2) := by decide +kernel
theorem dX7_rests_132 : decode cX7_rests 132 = .ok (.lload 11, 2) := by decide +kernel
theorem dX7_rests_134 : decode cX7_rests 134 = .ok (.invokestatic 97, 3) := by decide +kernel
theorem dX7_rests_137 : decode cX7_rests 137 = .ok (.invokestatic 105, 3) := by decide +kernel
theorem dX7_rests_140 : decode cX7_rests 140 = .ok (.dstore 7, 2) := by decide +kernel
theorem dX7_rests_142 : decode cX7_rests 142 = .ok (.iinc 9 1, 3) := by decide +kernel
theorem dX7_rests_145 : decode cX7_rests 145 = .ok (.iinc 10 1, 3) := by decide +kernel
theorem dX7_rests_148 : decode cX7_rests 148 = .ok (.goto (-73), 3) := by decide +kernel
theorem dX7_rests_151 : decode cX7_rests 151 = .ok (.aload 4, 2) := by decide +kernel
theorem dX7_rests_153 : decode cX7_rests 153 = .ok (.dload 7, 2) := by decide +kernel
theorem dX7_rests_155 : decode cX7_rests 155 = .ok (.aload 4, 2) := by decide +kernel
theorem dX7_rests_157 : decode cX7_rests 157 = .ok (.getfield 139, 3) := by decide +kernel
theorem dX7_rests_160 : decode cX7_rests 160 = .ok (.invokestatic 170, 3) := by decide +kernel
theorem dX7_rests_163 : decode cX7_rests 163 = .ok (.putfield 140, 3) := by decide +kernel
theorem dX7_rests_166 : decode cX7_rests 166 = .ok (.aload_n 0, 1) := by decide +kernel
theorem dX7_rests_167 : decode cX7_rests 167 = .ok (.iload 9, 2) := by decide +kernel
theorem dX7_rests_169 : decode cX7_rests 169 = .ok (.invokevirtual 84, 3) := by decide +kernel
theorem dX7_rests_172 : decode cX7_rests 172 = .ok (.ireturn, 1) := by decide +kernel
set_option maxRecDepth 20000 in
theorem ggX7_pointer_X7_wheelAt : GoodIn wsX7_pointer wsX7_wheelAt := goodIn_r _ [10, 11, 12, 31, 32, 33, 34, 35, 36, 37, 38, 39, 40, 41, 42] (by decide +kernel) (by decide +kernel)
set_option maxRecDepth 20000 in
theorem gX7_pointer_X7_wheelAt : GoodIn wsX7_pointer (wsV RX7 87 RX7 yX7_wheelAt wsX7_wheelAt) := goodIn_app (goodIn_of _ (by decide +kernel)) ggX7_pointer_X7_wheelAt
set_option maxRecDepth 20000 in
theorem ggX7_pointer_X7_refuse : GoodIn wsX7_pointer wsX7_refuse := goodIn_r _ [16, 17, 18, 31, 32, 33, 34, 35, 36, 37, 38, 39, 40, 41, 42] (by decide +kernel) (by decide +kernel)
set_option maxRecDepth 20000 in
theorem gX7_pointer_X7_refuse : GoodIn wsX7_pointer (wsV RX7 68 RX7 yX7_refuse wsX7_refuse) := goodIn_app (goodIn_of _ (by decide +kernel)) ggX7_pointer_X7_refuse
set_option maxRecDepth 20000 in
theorem ggX7_pointer_X1_init : GoodIn wsX7_pointer wsX1_init := goodIn_r _ [21, 22, 23, 24, 25, 26, 43, 44] (by decide +kernel) (by decide +kernel)
set_option maxRecDepth 20000 in
theorem gX7_pointer_X1_init : GoodIn wsX7_pointer (wsX1_init) := ggX7_pointer_X1_init
set_option maxRecDepth 20000 in
theorem ggX7_pointer_X7_answer : GoodIn wsX7_pointer wsX7_answer := goodIn_r _ [30, 17, 31, 32, 33, 34, 35, 36, 37, 38, 39, 40, 41, 42] (by decide +kernel) (by decide +kernel)
set_option maxRecDepth 20000 in
theorem gX7_pointer_X7_answer : GoodIn wsX7_pointer (wsV RX7 84 RX7 yX7_answer wsX7_answer) := goodIn_app (goodIn_of _ (by decide +kernel)) ggX7_pointer_X7_answer
theorem dX7_pointer_0 : decode cX7_pointer 0 = .ok (.aload_n 0, 1) := by decide +kernel
theorem dX7_pointer_1 : decode cX7_pointer 1 = .ok (.iload_n 2, 1) := by decide +kernel
theorem dX7_pointer_2 : decode cX7_pointer 2 = .ok (.invokevirtual 87, 3) := by decide +kernel
theorem dX7_pointer_5 : decode cX7_pointer 5 = .ok (.astore_n 3, 1) := by decide +kernel
theorem dX7_pointer_6 : decode cX7_pointer 6 = .ok (.iload_n 1, 1) := by decide +kernel
theorem dX7_pointer_7 : decode cX7_pointer 7 = .ok (.ifCond .lt 12, 3) := by decide +kernel
theorem dX7_pointer_10 : decode cX7_pointer 10 = .ok (.iload_n 1, 1) := by decide +kernel
theorem dX7_pointer_11 : decode cX7_pointer 11 = .ok (.iconst 3, 1) := by decide +kernel
theorem dX7_pointer_12 : decode cX7_pointer 12 = .ok (.if_icmp .gt 7, 3) := by decide +kernel
theorem dX7_pointer_15 : decode cX7_pointer 15 = .ok (.aload_n 3, 1) := by decide +kernel
theorem dX7_pointer_16 : decode cX7_pointer 16 = .ok (.ifnonnull 10, 3) := by decide +kernel
theorem dX7_pointer_19 : decode cX7_pointer 19 = .ok (.aload_n 0, 1) := by decide +kernel
theorem dX7_pointer_20 : decode cX7_pointer 20 = .ok (.bipush (-2), 2) := by decide +kernel
theorem dX7_pointer_22 : decode cX7_pointer 22 = .ok (.invokevirtual 68, 3) := by decide +kernel
theorem dX7_pointer_25 : decode cX7_pointer 25 = .ok (.ireturn, 1) := by decide +kernel
theorem dX7_pointer_26 : decode cX7_pointer 26 = .ok (.aload_n 0, 1) := by decide +kernel
theorem dX7_pointer_27 : decode cX7_pointer 27 = .ok (.getfield 49, 3) := by decide +kernel
theorem dX7_pointer_30 : decode cX7_pointer 30 = .ok (.bipush 12, 2) := by decide +kernel
theorem dX7_pointer_32 : decode cX7_pointer 32 = .ok (.if_icmp .lt 10, 3) := by decide +kernel
theorem dX7_pointer_35 : decode cX7_pointer 35 = .ok (.aload_n 0, 1) := by decide +kernel
theorem dX7_pointer_36 : decode cX7_pointer 36 = .ok (.bipush (-3), 2) := by decide +kernel
theorem dX7_pointer_38 : decode cX7_pointer 38 = .ok (.invokevirtual 68, 3) := by decide +kernel
theorem dX7_pointer_41 : decode cX7_pointer 41 = .ok (.ireturn, 1) := by decide +kernel
theorem dX7_pointer_42 : decode cX7_pointer 42 = .ok (.aload_n 0, 1) := by decide +kernel
theorem dX7_pointer_43 : decode cX7_pointer 43 = .ok (.getfield 29, 3) := by decide +kernel
theorem dX7_pointer_46 : decode cX7_pointer 46 = .ok (.aload_n 0, 1) := by decide +kernel
theorem dX7_pointer_47 : decode cX7_pointer 47 = .ok (.getfield 49, 3) := by decide +kernel
theorem dX7_pointer_50 : decode cX7_pointer 50 = .ok (.new 27, 3) := by decide +kernel
theorem dX7_pointer_53 : decode cX7_pointer 53 = .ok (.dup, 1) := by decide +kernel
theorem dX7_pointer_54 : decode cX7_pointer 54 = .ok (.iload_n 1, 1) := by decide +kernel
theorem dX7_pointer_55 : decode cX7_pointer 55 = .ok (.aload_n 3, 1) := by decide +kernel
theorem dX7_pointer_56 : decode cX7_pointer 56 = .ok (.invokespecial 174, 3) := by decide +kernel
theorem dX7_pointer_59 : decode cX7_pointer 59 = .ok (.aastore, 1) := by decide +kernel
theorem dX7_pointer_60 : decode cX7_pointer 60 = .ok (.aload_n 0, 1) := by decide +kernel
theorem dX7_pointer_61 : decode cX7_pointer 61 = .ok (.aload_n 0, 1) := by decide +kernel
theorem dX7_pointer_62 : decode cX7_pointer 62 = .ok (.dup, 1) := by decide +kernel
theorem dX7_pointer_63 : decode cX7_pointer 63 = .ok (.getfield 49, 3) := by decide +kernel
theorem dX7_pointer_66 : decode cX7_pointer 66 = .ok (.dup_x1, 1) := by decide +kernel
theorem dX7_pointer_67 : decode cX7_pointer 67 = .ok (.iconst 1, 1) := by decide +kernel
theorem dX7_pointer_68 : decode cX7_pointer 68 = .ok (.iadd, 1) := by decide +kernel
theorem dX7_pointer_69 : decode cX7_pointer 69 = .ok (.putfield 49, 3) := by decide +kernel
theorem dX7_pointer_72 : decode cX7_pointer 72 = .ok (.invokevirtual 84, 3) := by decide +kernel
theorem dX7_pointer_75 : decode cX7_pointer 75 = .ok (.ireturn, 1) := by decide +kernel
set_option maxRecDepth 20000 in
theorem ggX7_stand_X7_refuse : GoodIn wsX7_stand wsX7_refuse := goodIn_r _ [10, 11, 12, 26, 27, 28, 29, 30, 31, 32, 33, 34, 35, 36, 37] (by decide +kernel) (by decide +kernel)
set_option maxRecDepth 20000 in
theorem gX7_stand_X7_refuse : GoodIn wsX7_stand (wsV RX7 68 RX7 yX7_refuse wsX7_refuse) := goodIn_app (goodIn_of _ (by decide +kernel)) ggX7_stand_X7_refuse
set_option maxRecDepth 20000 in
theorem ggX7_stand_X4_init : GoodIn wsX7_stand wsX4_init := goodIn_r _ [15, 16, 17, 18, 19, 20, 21, 38, 39] (by decide +kernel) (by decide +kernel)
set_option maxRecDepth 20000 in
theorem gX7_stand_X4_init : GoodIn wsX7_stand (wsX4_init) := ggX7_stand_X4_init
set_option maxRecDepth 20000 in
theorem ggX7_stand_X7_answer : GoodIn wsX7_stand wsX7_answer := goodIn_r _ [25, 11, 26, 27, 28, 29, 30, 31, 32, 33, 34, 35, 36, 37] (by decide +kernel) (by decide +kernel)
set_option maxRecDepth 20000 in
theorem gX7_stand_X7_answer : GoodIn wsX7_stand (wsV RX7 84 RX7 yX7_answer wsX7_answer) := goodIn_app (goodIn_of _ (by decide +kernel)) ggX7_stand_X7_answer
theorem dX7_stand_0 : decode cX7_stand 0 = .ok (.iload_n 1, 1) := by decide +kernel
theorem dX7_stand_1 : decode cX7_stand 1 = .ok (.ifCond .lt 19, 3) := by decide +kernel
theorem dX7_stand_4 : decode cX7_stand 4 = .ok (.iload_n 1, 1) := by decide +kernel
theorem dX7_stand_5 : decode cX7_stand 5 = .ok (.iconst 3, 1) := by decide +kernel
theorem dX7_stand_6 : decode cX7_stand 6 = .ok (.if_icmp .gt 14, 3) := by decide +kernel
theorem dX7_stand_9 : decode cX7_stand 9 = .ok (.iload_n 2, 1) := by decide +kernel
theorem dX7_stand_10 : decode cX7_stand 10 = .ok (.iconst 1, 1) := by decide +kernel
theorem dX7_stand_11 : decode cX7_stand 11 = .ok (.if_icmp .lt 9, 3) := by decide +kernel
theorem dX7_stand_14 : decode cX7_stand 14 = .ok (.iload_n 2, 1) := by decide +kernel
theorem dX7_stand_15 : decode cX7_stand 15 = .ok (.bipush 6, 2) := by decide +kernel
theorem dX7_stand_17 : decode cX7_stand 17 = .ok (.if_icmp .le 10, 3) := by decide +kernel
theorem dX7_stand_20 : decode cX7_stand 20 = .ok (.aload_n 0, 1) := by decide +kernel
theorem dX7_stand_21 : decode cX7_stand 21 = .ok (.bipush (-2), 2) := by decide +kernel
theorem dX7_stand_23 : decode cX7_stand 23 = .ok (.invokevirtual 68, 3) := by decide +kernel
theorem dX7_stand_26 : decode cX7_stand 26 = .ok (.ireturn, 1) := by decide +kernel
theorem dX7_stand_27 : decode cX7_stand 27 = .ok (.aload_n 0, 1) := by decide +kernel
theorem dX7_stand_28 : decode cX7_stand 28 = .ok (.getfield 52, 3) := by decide +kernel
theorem dX7_stand_31 : decode cX7_stand 31 = .ok (.bipush 8, 2) := by decide +kernel
theorem dX7_stand_33 : decode cX7_stand 33 = .ok (.if_icmp .lt 10, 3) := by decide +kernel
theorem dX7_stand_36 : decode cX7_stand 36 = .ok (.aload_n 0, 1) := by decide +kernel
theorem dX7_stand_37 : decode cX7_stand 37 = .ok (.bipush (-3), 2) := by decide +kernel
theorem dX7_stand_39 : decode cX7_stand 39 = .ok (.invokevirtual 68, 3) := by decide +kernel
theorem dX7_stand_42 : decode cX7_stand 42 = .ok (.ireturn, 1) := by decide +kernel
theorem dX7_stand_43 : decode cX7_stand 43 = .ok (.aload_n 0, 1) := by decide +kernel
theorem dX7_stand_44 : decode cX7_stand 44 = .ok (.getfield 35, 3) := by decide +kernel
theorem dX7_stand_47 : decode cX7_stand 47 = .ok (.aload_n 0, 1) := by decide +kernel
theorem dX7_stand_48 : decode cX7_stand 48 = .ok (.getfield 52, 3) := by decide +kernel
theorem dX7_stand_51 : decode cX7_stand 51 = .ok (.new 33, 3) := by decide +kernel
theorem dX7_stand_54 : decode cX7_stand 54 = .ok (.dup, 1) := by decide +kernel
theorem dX7_stand_55 : decode cX7_stand 55 = .ok (.iload_n 1, 1) := by decide +kernel
theorem dX7_stand_56 : decode cX7_stand 56 = .ok (.iload_n 2, 1) := by decide +kernel
theorem dX7_stand_57 : decode cX7_stand 57 = .ok (.invokespecial 177, 3) := by decide +kernel
theorem dX7_stand_60 : decode cX7_stand 60 = .ok (.aastore, 1) := by decide +kernel
theorem dX7_stand_61 : decode cX7_stand 61 = .ok (.aload_n 0, 1) := by decide +kernel
theorem dX7_stand_62 : decode cX7_stand 62 = .ok (.aload_n 0, 1) := by decide +kernel
theorem dX7_stand_63 : decode cX7_stand 63 = .ok (.dup, 1) := by decide +kernel
theorem dX7_stand_64 : decode cX7_stand 64 = .ok (.getfield 52, 3) := by decide +kernel
theorem dX7_stand_67 : decode cX7_stand 67 = .ok (.dup_x1, 1) := by decide +kernel
theorem dX7_stand_68 : decode cX7_stand 68 = .ok (.iconst 1, 1) := by decide +kernel
theorem dX7_stand_69 : decode cX7_stand 69 = .ok (.iadd, 1) := by decide +kernel
theorem dX7_stand_70 : decode cX7_stand 70 = .ok (.putfield 52, 3) := by decide +kernel
theorem dX7_stand_73 : decode cX7_stand 73 = .ok (.invokevirtual 84, 3) := by decide +kernel
theorem dX7_stand_76 : decode cX7_stand 76 = .ok (.ireturn, 1) := by decide +kernel
set_option maxRecDepth 20000 in
theorem ggX7_set_X7_standAt : GoodIn wsX7_set wsX7_standAt := goodIn_r _ [7, 8, 9, 46, 47, 48, 49, 50, 51, 52, 53, 54, 55, 56, 57] (by decide +kernel) (by decide +kernel)
set_option maxRecDepth 20000 in
theorem gX7_set_X7_standAt : GoodIn wsX7_set (wsV RX7 178 RX7 yX7_standAt wsX7_standAt) := goodIn_app (goodIn_of _ (by decide +kernel)) ggX7_set_X7_standAt
set_option maxRecDepth 20000 in
theorem ggX7_set_X7_pointerAt : GoodIn wsX7_set wsX7_pointerAt := goodIn_r _ [13, 14, 15, 46, 47, 48, 49, 50, 51, 52, 53, 54, 55, 56, 57] (by decide +kernel) (by decide +kernel)
set_option maxRecDepth 20000 in
theorem gX7_set_X7_pointerAt : GoodIn wsX7_set (wsV RX7 182 RX7 yX7_pointerAt wsX7_pointerAt) := goodIn_app (goodIn_of _ (by decide +kernel)) ggX7_set_X7_pointerAt
set_option maxRecDepth 20000 in
theorem ggX7_set_X7_refuse : GoodIn wsX7_set wsX7_refuse := goodIn_r _ [19, 20, 21, 46, 47, 48, 49, 50, 51, 52, 53, 54, 55, 56, 57] (by decide +kernel) (by decide +kernel)
set_option maxRecDepth 20000 in
theorem gX7_set_X7_refuse : GoodIn wsX7_set (wsV RX7 68 RX7 yX7_refuse wsX7_refuse) := goodIn_app (goodIn_of _ (by decide +kernel)) ggX7_set_X7_refuse
set_option maxRecDepth 20000 in
theorem ggX7_set_X7_putAt : GoodIn wsX7_set wsX7_putAt := goodIn_r _ [25, 2, 26, 27, 28, 29, 30, 31, 32, 16, 17, 18, 6, 19, 20, 21, 33, 34, 35, 36, 37, 38, 39, 40, 41, 44, 45, 42, 43, 46, 47, 48, 49, 50, 51, 52, 53, 54, 55, 56, 57] (by decide +kernel) (by decide +kernel)
set_option maxRecDepth 20000 in
theorem gX7_set_X7_putAt : GoodIn wsX7_set (wsV RX7 190 RX7 yX7_putAt wsX7_putAt) := goodIn_app (goodIn_of _ (by decide +kernel)) ggX7_set_X7_putAt
theorem dX7_set_0 : decode cX7_set 0 = .ok (.aload_n 0, 1) := by decide +kernel
theorem dX7_set_1 : decode cX7_set 1 = .ok (.iload_n 1, 1) := by decide +kernel
theorem dX7_set_2 : decode cX7_set 2 = .ok (.invokevirtual 178, 3) := by decide +kernel
theorem dX7_set_5 : decode cX7_set 5 = .ok (.astore 4, 2) := by decide +kernel
theorem dX7_set_7 : decode cX7_set 7 = .ok (.aload_n 0, 1) := by decide +kernel
theorem dX7_set_8 : decode cX7_set 8 = .ok (.iload_n 3, 1) := by decide +kernel
theorem dX7_set_9 : decode cX7_set 9 = .ok (.invokevirtual 182, 3) := by decide +kernel
theorem dX7_set_12 : decode cX7_set 12 = .ok (.astore 5, 2) := by decide +kernel
theorem dX7_set_14 : decode cX7_set 14 = .ok (.aload 4, 2) := by decide +kernel
theorem dX7_set_16 : decode cX7_set 16 = .ok (.ifnull 13, 3) := by decide +kernel
theorem dX7_set_19 : decode cX7_set 19 = .ok (.aload 5, 2) := by decide +kernel
theorem dX7_set_21 : decode cX7_set 21 = .ok (.ifnonnull 15, 3) := by decide +kernel
theorem dX7_set_24 : decode cX7_set 24 = .ok (.iload_n 3, 1) := by decide +kernel
theorem dX7_set_25 : decode cX7_set 25 = .ok (.iconst (-1), 1) := by decide +kernel
theorem dX7_set_26 : decode cX7_set 26 = .ok (.if_icmp .eq 10, 3) := by decide +kernel
theorem dX7_set_29 : decode cX7_set 29 = .ok (.aload_n 0, 1) := by decide +kernel
theorem dX7_set_30 : decode cX7_set 30 = .ok (.bipush (-2), 2) := by decide +kernel
theorem dX7_set_32 : decode cX7_set 32 = .ok (.invokevirtual 68, 3) := by decide +kernel
theorem dX7_set_35 : decode cX7_set 35 = .ok (.ireturn, 1) := by decide +kernel
theorem dX7_set_36 : decode cX7_set 36 = .ok (.aload 4, 2) := by decide +kernel
theorem dX7_set_38 : decode cX7_set 38 = .ok (.getfield 186, 3) := by decide +kernel
theorem dX7_set_41 : decode cX7_set 41 = .ok (.iconst 3, 1) := by decide +kernel
theorem dX7_set_42 : decode cX7_set 42 = .ok (.if_icmp .eq 17, 3) := by decide +kernel
theorem dX7_set_45 : decode cX7_set 45 = .ok (.aload 5, 2) := by decide +kernel
theorem dX7_set_47 : decode cX7_set 47 = .ok (.ifnull 19, 3) := by decide +kernel
theorem dX7_set_50 : decode cX7_set 50 = .ok (.aload 5, 2) := by decide +kernel
theorem dX7_set_52 : decode cX7_set 52 = .ok (.getfield 189, 3) := by decide +kernel
theorem dX7_set_55 : decode cX7_set 55 = .ok (.iconst 3, 1) := by decide +kernel
theorem dX7_set_56 : decode cX7_set 56 = .ok (.if_icmp .ne 10, 3) := by decide +kernel
theorem dX7_set_59 : decode cX7_set 59 = .ok (.aload_n 0, 1) := by decide +kernel
theorem dX7_set_60 : decode cX7_set 60 = .ok (.bipush (-7), 2) := by decide +kernel
theorem dX7_set_62 : decode cX7_set 62 = .ok (.invokevirtual 68, 3) := by decide +kernel
theorem dX7_set_65 : decode cX7_set 65 = .ok (.ireturn, 1) := by decide +kernel
theorem dX7_set_66 : decode cX7_set 66 = .ok (.aload_n 0, 1) := by decide +kernel
theorem dX7_set_67 : decode cX7_set 67 = .ok (.aload 4, 2) := by decide +kernel
theorem dX7_set_69 : decode cX7_set 69 = .ok (.iload_n 2, 1) := by decide +kernel
theorem dX7_set_70 : decode cX7_set 70 = .ok (.aload 5, 2) := by decide +kernel
theorem dX7_set_72 : decode cX7_set 72 = .ok (.invokevirtual 190, 3) := by decide +kernel
theorem dX7_set_75 : decode cX7_set 75 = .ok (.ireturn, 1) := by decide +kernel
set_option maxRecDepth 20000 in
theorem ggX7_hang_X7_standAt : GoodIn wsX7_hang wsX7_standAt := goodIn_r _ [5, 6, 7, 41, 42, 43, 44, 45, 46, 47, 48, 49, 50, 51, 52] (by decide +kernel) (by decide +kernel)
set_option maxRecDepth 20000 in
theorem gX7_hang_X7_standAt : GoodIn wsX7_hang (wsV RX7 178 RX7 yX7_standAt wsX7_standAt) := goodIn_app (goodIn_of _ (by decide +kernel)) ggX7_hang_X7_standAt
set_option maxRecDepth 20000 in
theorem ggX7_hang_X7_pointerAt : GoodIn wsX7_hang wsX7_pointerAt := goodIn_r _ [11, 12, 13, 41, 42, 43, 44, 45, 46, 47, 48, 49, 50, 51, 52] (by decide +kernel) (by decide +kernel)
set_option maxRecDepth 20000 in
theorem gX7_hang_X7_pointerAt : GoodIn wsX7_hang (wsV RX7 182 RX7 yX7_pointerAt wsX7_pointerAt) := goodIn_app (goodIn_of _ (by decide +kernel)) ggX7_hang_X7_pointerAt
set_option maxRecDepth 20000 in
theorem ggX7_hang_X7_refuse : GoodIn wsX7_hang wsX7_refuse := goodIn_r _ [17, 18, 19, 41, 42, 43, 44, 45, 46, 47, 48, 49, 50, 51, 52] (by decide +kernel) (by decide +kernel)
set_option maxRecDepth 20000 in
theorem gX7_hang_X7_refuse : GoodIn wsX7_hang (wsV RX7 68 RX7 yX7_refuse wsX7_refuse) := goodIn_app (goodIn_of _ (by decide +kernel)) ggX7_hang_X7_refuse
set_option maxRecDepth 20000 in
theorem ggX7_hang_X7_putAt : GoodIn wsX7_hang wsX7_putAt := goodIn_r _ [23, 24, 25, 26, 27, 28, 29, 30, 31, 14, 15, 16, 4, 17, 18, 19, 32, 33, 34, 35, 36, 37, 38, 39, 40, 53, 54, 55, 56, 41, 42, 43, 44, 45, 46, 47, 48, 49, 50, 51, 52] (by decide +kernel) (by decide +kernel)
set_option maxRecDepth 20000 in
theorem gX7_hang_X7_putAt : GoodIn wsX7_hang (wsV RX7 190 RX7 yX7_putAt wsX7_putAt) := goodIn_app (goodIn_of _ (by decide +kernel)) ggX7_hang_X7_putAt
theorem dX7_hang_0 : decode cX7_hang 0 = .ok (.aload_n 0, 1) := by decide +kernel
theorem dX7_hang_1 : decode cX7_hang 1 = .ok (.iload_n 1, 1) := by decide +kernel
theorem dX7_hang_2 : decode cX7_hang 2 = .ok (.invokevirtual 178, 3) := by decide +kernel
theorem dX7_hang_5 : decode cX7_hang 5 = .ok (.astore 4, 2) := by decide +kernel
theorem dX7_hang_7 : decode cX7_hang 7 = .ok (.aload_n 0, 1) := by decide +kernel
theorem dX7_hang_8 : decode cX7_hang 8 = .ok (.iload_n 3, 1) := by decide +kernel
theorem dX7_hang_9 : decode cX7_hang 9 = .ok (.invokevirtual 182, 3) := by decide +kernel
theorem dX7_hang_12 : decode cX7_hang 12 = .ok (.astore 5, 2) := by decide +kernel
theorem dX7_hang_14 : decode cX7_hang 14 = .ok (.aload 4, 2) := by decide +kernel
theorem dX7_hang_16 : decode cX7_hang 16 = .ok (.ifnull 13, 3) := by decide +kernel
theorem dX7_hang_19 : decode cX7_hang 19 = .ok (.aload 5, 2) := by decide +kernel
theorem dX7_hang_21 : decode cX7_hang 21 = .ok (.ifnonnull 15, 3) := by decide +kernel
theorem dX7_hang_24 : decode cX7_hang 24 = .ok (.iload_n 3, 1) := by decide +kernel
theorem dX7_hang_25 : decode cX7_hang 25 = .ok (.iconst (-1), 1) := by decide +kernel
theorem dX7_hang_26 : decode cX7_hang 26 = .ok (.if_icmp .eq 10, 3) := by decide +kernel
theorem dX7_hang_29 : decode cX7_hang 29 = .ok (.aload_n 0, 1) := by decide +kernel
theorem dX7_hang_30 : decode cX7_hang 30 = .ok (.bipush (-2), 2) := by decide +kernel
theorem dX7_hang_32 : decode cX7_hang 32 = .ok (.invokevirtual 68, 3) := by decide +kernel
theorem dX7_hang_35 : decode cX7_hang 35 = .ok (.ireturn, 1) := by decide +kernel
theorem dX7_hang_36 : decode cX7_hang 36 = .ok (.aload_n 0, 1) := by decide +kernel
theorem dX7_hang_37 : decode cX7_hang 37 = .ok (.aload 4, 2) := by decide +kernel
theorem dX7_hang_39 : decode cX7_hang 39 = .ok (.iload_n 2, 1) := by decide +kernel
theorem dX7_hang_40 : decode cX7_hang 40 = .ok (.aload 5, 2) := by decide +kernel
theorem dX7_hang_42 : decode cX7_hang 42 = .ok (.invokevirtual 190, 3) := by decide +kernel
theorem dX7_hang_45 : decode cX7_hang 45 = .ok (.ireturn, 1) := by decide +kernel
set_option maxRecDepth 20000 in
theorem ggX7_show_X7_standAt : GoodIn wsX7_show wsX7_standAt := goodIn_r _ [6, 7, 8, 116, 117, 118, 119, 120, 121, 122, 123, 124, 125, 126, 127] (by decide +kernel) (by decide +kernel)
set_option maxRecDepth 20000 in
theorem gX7_show_X7_standAt : GoodIn wsX7_show (wsV RX7 178 RX7 yX7_standAt wsX7_standAt) := goodIn_app (goodIn_of _ (by decide +kernel)) ggX7_show_X7_standAt
set_option maxRecDepth 20000 in
theorem ggX7_show_X7_refuseAnyNumber : GoodIn wsX7_show wsX7_refuseAnyNumber := goodIn_r _ [12, 13, 14, 15, 5, 16, 17, 18, 116, 117, 118, 119, 120, 121, 122, 123, 124, 125, 126, 127] (by decide +kernel) (by decide +kernel)
set_option maxRecDepth 20000 in
theorem gX7_show_X7_refuseAnyNumber : GoodIn wsX7_show (wsV RX7 91 RX7 yX7_refuseAnyNumber wsX7_refuseAnyNumber) := goodIn_app (goodIn_of _ (by decide +kernel)) ggX7_show_X7_refuseAnyNumber
set_option maxRecDepth 20000 in
theorem ggX7_show_X4_hasPlace : GoodIn wsX7_show wsX4_hasPlace := goodIn_r _ [23, 24, 114, 115] (by decide +kernel) (by decide +kernel)
set_option maxRecDepth 20000 in
theorem gX7_show_X4_hasPlace : GoodIn wsX7_show (wsV RX7 194 RX4 yX4_hasPlace wsX4_hasPlace) := goodIn_app (goodIn_of _ (by decide +kernel)) ggX7_show_X4_hasPlace
set_option maxRecDepth 20000 in
theorem ggX7_show_X1_shown : GoodIn wsX7_show wsX1_shown := goodIn_r _ [29, 30, 31, 32, 33, 34, 35, 36, 37, 38, 39, 40, 41, 42, 43, 44, 45, 46, 47, 48, 49, 50, 51, 52, 53, 54, 55, 56, 57, 58, 59, 60, 61, 62, 63, 64, 65, 66, 67, 68, 69, 70, 71, 72, 73, 74, 75, 76, 77, 78, 79, 80, 81, 82, 83, 84, 85, 86, 87, 88, 89, 90, 91, 92, 93, 94, 95, 96, 97, 98, 99, 100, 101, 102, 103, 104, 105, 106, 28, 107, 108, 109, 128, 129, 130, 131, 132] (by decide +kernel) (by decide +kernel)
set_option maxRecDepth 20000 in
theorem gX7_show_X1_shown : GoodIn wsX7_show (wsV RX7 199 RX1 yX1_shown wsX1_shown) := goodIn_app (goodIn_of _ (by decide +kernel)) ggX7_show_X1_shown
set_option maxRecDepth 20000 in
theorem ggX7_show_X7_answerLong : GoodIn wsX7_show wsX7_answerLong := goodIn_r _ [113, 17, 116, 117, 118, 119, 120, 121, 122, 123, 124, 125, 126, 127] (by decide +kernel) (by decide +kernel)
set_option maxRecDepth 20000 in
theorem gX7_show_X7_answerLong : GoodIn wsX7_show (wsV RX7 123 RX7 yX7_answerLong wsX7_answerLong) := goodIn_app (goodIn_of _ (by decide +kernel)) ggX7_show_X7_answerLong
theorem dX7_show_0 : decode cX7_show 0 = .ok (.aload_n 0, 1) := by decide +kernel
theorem dX7_show_1 : decode cX7_show 1 = .ok (.iload_n 1, 1) := by decide +kernel
theorem dX7_show_2 : decode cX7_show 2 = .ok (.invokevirtual 178, 3) := by decide +kernel
theorem dX7_show_5 : decode cX7_show 5 = .ok (.astore_n 3, 1) := by decide +kernel
theorem dX7_show_6 : decode cX7_show 6 = .ok (.aload_n 3, 1) := by decide +kernel
theorem dX7_show_7 : decode cX7_show 7 = .ok (.ifnonnull 11, 3) := by decide +kernel
theorem dX7_show_10 : decode cX7_show 10 = .ok (.aload_n 0, 1) := by decide +kernel
theorem dX7_show_11 : decode cX7_show 11 = .ok (.bipush (-2), 2) := by decide +kernel
theorem dX7_show_13 : decode cX7_show 13 = .ok (.invokevirtual 91, 3) := by decide +kernel
theorem dX7_show_16 : decode cX7_show 16 = .ok (.i2l, 1) := by decide +kernel
theorem dX7_show_17 : decode cX7_show 17 = .ok (.lreturn, 1) := by decide +kernel
theorem dX7_show_18 : decode cX7_show 18 = .ok (.aload_n 3, 1) := by decide +kernel
theorem dX7_show_19 : decode cX7_show 19 = .ok (.iload_n 2, 1) := by decide +kernel
theorem dX7_show_20 : decode cX7_show 20 = .ok (.invokevirtual 194, 3) := by decide +kernel
theorem dX7_show_23 : decode cX7_show 23 = .ok (.ifCond .ne 11, 3) := by decide +kernel
theorem dX7_show_26 : decode cX7_show 26 = .ok (.aload_n 0, 1) := by decide +kernel
theorem dX7_show_27 : decode cX7_show 27 = .ok (.bipush (-8), 2) := by decide +kernel
theorem dX7_show_29 : decode cX7_show 29 = .ok (.invokevirtual 91, 3) := by decide +kernel
theorem dX7_show_32 : decode cX7_show 32 = .ok (.i2l, 1) := by decide +kernel
theorem dX7_show_33 : decode cX7_show 33 = .ok (.lreturn, 1) := by decide +kernel
theorem dX7_show_34 : decode cX7_show 34 = .ok (.aload_n 3, 1) := by decide +kernel
theorem dX7_show_35 : decode cX7_show 35 = .ok (.getfield 197, 3) := by decide +kernel
theorem dX7_show_38 : decode cX7_show 38 = .ok (.iload_n 2, 1) := by decide +kernel
theorem dX7_show_39 : decode cX7_show 39 = .ok (.aaload, 1) := by decide +kernel
theorem dX7_show_40 : decode cX7_show 40 = .ok (.astore 4, 2) := by decide +kernel
theorem dX7_show_42 : decode cX7_show 42 = .ok (.aload 4, 2) := by decide +kernel
theorem dX7_show_44 : decode cX7_show 44 = .ok (.ifnonnull 11, 3) := by decide +kernel
theorem dX7_show_47 : decode cX7_show 47 = .ok (.aload_n 0, 1) := by decide +kernel
theorem dX7_show_48 : decode cX7_show 48 = .ok (.bipush (-10), 2) := by decide +kernel
theorem dX7_show_50 : decode cX7_show 50 = .ok (.invokevirtual 91, 3) := by decide +kernel
theorem dX7_show_53 : decode cX7_show 53 = .ok (.i2l, 1) := by decide +kernel
theorem dX7_show_54 : decode cX7_show 54 = .ok (.lreturn, 1) := by decide +kernel
theorem dX7_show_55 : decode cX7_show 55 = .ok (.aload_n 0, 1) := by decide +kernel
theorem dX7_show_56 : decode cX7_show 56 = .ok (.aload 4, 2) := by decide +kernel
theorem dX7_show_58 : decode cX7_show 58 = .ok (.invokevirtual 199, 3) := by decide +kernel
theorem dX7_show_61 : decode cX7_show 61 = .ok (.invokevirtual 123, 3) := by decide +kernel
theorem dX7_show_64 : decode cX7_show 64 = .ok (.lreturn, 1) := by decide +kernel
set_option maxRecDepth 20000 in
theorem ggX7_all_X7_standAt : GoodIn wsX7_all wsX7_standAt := goodIn_r _ [6, 7, 8, 110, 111, 112, 113, 114, 115, 116, 117, 118, 119, 120, 121] (by decide +kernel) (by decide +kernel)
set_option maxRecDepth 20000 in
theorem gX7_all_X7_standAt : GoodIn wsX7_all (wsV RX7 178 RX7 yX7_standAt wsX7_standAt) := goodIn_app (goodIn_of _ (by decide +kernel)) ggX7_all_X7_standAt
set_option maxRecDepth 20000 in
theorem ggX7_all_X7_refuseAnyNumber : GoodIn wsX7_all wsX7_refuseAnyNumber := goodIn_r _ [12, 13, 14, 15, 5, 16, 17, 18, 110, 111, 112, 113, 114, 115, 116, 117, 118, 119, 120, 121] (by decide +kernel) (by decide +kernel)
set_option maxRecDepth 20000 in
theorem gX7_all_X7_refuseAnyNumber : GoodIn wsX7_all (wsV RX7 91 RX7 yX7_refuseAnyNumber wsX7_refuseAnyNumber) := goodIn_app (goodIn_of _ (by decide +kernel)) ggX7_all_X7_refuseAnyNumber
set_option maxRecDepth 20000 in
theorem ggX7_all_X1_shown : GoodIn wsX7_all wsX1_shown := goodIn_r _ [23, 24, 25, 26, 27, 28, 29, 30, 31, 32, 33, 34, 35, 36, 37, 38, 39, 40, 41, 42, 43, 44, 45, 46, 47, 48, 49, 50, 51, 52, 53, 54, 55, 56, 57, 58, 59, 60, 61, 62, 63, 64, 65, 66, 67, 68, 69, 70, 71, 72, 73, 74, 75, 76, 77, 78, 79, 80, 81, 82, 83, 84, 85, 86, 87, 88, 89, 90, 91, 92, 93, 94, 95, 96, 97, 98, 99, 100, 22, 101, 102, 103, 122, 123, 124, 125, 126] (by decide +kernel) (by decide +kernel)
set_option maxRecDepth 20000 in
theorem gX7_all_X1_shown : GoodIn wsX7_all (wsV RX7 199 RX1 yX1_shown wsX1_shown) := goodIn_app (goodIn_of _ (by decide +kernel)) ggX7_all_X1_shown
set_option maxRecDepth 20000 in
theorem ggX7_all_X7_answerLong : GoodIn wsX7_all wsX7_answerLong := goodIn_r _ [107, 17, 110, 111, 112, 113, 114, 115, 116, 117, 118, 119, 120, 121] (by decide +kernel) (by decide +kernel)
set_option maxRecDepth 20000 in
theorem gX7_all_X7_answerLong : GoodIn wsX7_all (wsV RX7 123 RX7 yX7_answerLong wsX7_answerLong) := goodIn_app (goodIn_of _ (by decide +kernel)) ggX7_all_X7_answerLong
theorem dX7_all_0 : decode cX7_all 0 = .ok (.aload_n 0, 1) := by decide +kernel
theorem dX7_all_1 : decode cX7_all 1 = .ok (.iload_n 1, 1) := by decide +kernel
theorem dX7_all_2 : decode cX7_all 2 = .ok (.invokevirtual 178, 3) := by decide +kernel
theorem dX7_all_5 : decode cX7_all 5 = .ok (.astore_n 2, 1) := by decide +kernel
theorem dX7_all_6 : decode cX7_all 6 = .ok (.aload_n 2, 1) := by decide +kernel
theorem dX7_all_7 : decode cX7_all 7 = .ok (.ifnonnull 11, 3) := by decide +kernel
theorem dX7_all_10 : decode cX7_all 10 = .ok (.aload_n 0, 1) := by decide +kernel
theorem dX7_all_11 : decode cX7_all 11 = .ok (.bipush (-2), 2) := by decide +kernel
theorem dX7_all_13 : decode cX7_all 13 = .ok (.invokevirtual 91, 3) := by decide +kernel
theorem dX7_all_16 : decode cX7_all 16 = .ok (.i2l, 1) := by decide +kernel
theorem dX7_all_17 : decode cX7_all 17 = .ok (.lreturn, 1) := by decide +kernel
theorem dX7_all_18 : decode cX7_all 18 = .ok (.lconst 0, 1) := by decide +kernel
theorem dX7_all_19 : decode cX7_all 19 = .ok (.lstore_n 3, 1) := by decide +kernel
theorem dX7_all_20 : decode cX7_all 20 = .ok (.aload_n 2, 1) := by decide +kernel
theorem dX7_all_21 : decode cX7_all 21 = .ok (.getfield 197, 3) := by decide +kernel
theorem dX7_all_24 : decode cX7_all 24 = .ok (.astore 5, 2) := by decide +kernel
theorem dX7_all_26 : decode cX7_all 26 = .ok (.aload 5, 2) := by decide +kernel
theorem dX7_all_28 : decode cX7_all 28 = .ok (.arraylength, 1) := by decide +kernel
theorem dX7_all_29 : decode cX7_all 29 = .ok (.istore 6, 2) := by decide +kernel
theorem dX7_all_31 : decode cX7_all 31 = .ok (.iconst 0, 1) := by decide +kernel
theorem dX7_all_32 : decode cX7_all 32 = .ok (.istore 7, 2) := by decide +kernel
theorem dX7_all_34 : decode cX7_all 34 = .ok (.iload 7, 2) := by decide +kernel
theorem dX7_all_36 : decode cX7_all 36 = .ok (.iload 6, 2) := by decide +kernel
theorem dX7_all_38 : decode cX7_all 38 = .ok (.if_icmp .ge 29, 3) := by decide +kernel
theorem dX7_all_41 : decode cX7_all 41 = .ok (.aload 5, 2) := by decide +kernel
theorem dX7_all_43 : decode cX7_all 43 = .ok (.iload 7, 2) := by decide +kernel
theorem dX7_all_45 : decode cX7_all 45 = .ok (.aaload, 1) := by decide +kernel
theorem dX7_all_46 : decode cX7_all 46 = .ok (.astore 8, 2) := by decide +kernel
theorem dX7_all_48 : decode cX7_all 48 = .ok (.aload 8, 2) := by decide +kernel
theorem dX7_all_50 : decode cX7_all 50 = .ok (.ifnull 11, 3) := by decide +kernel
theorem dX7_all_53 : decode cX7_all 53 = .ok (.lload_n 3, 1) := by decide +kernel
theorem dX7_all_54 : decode cX7_all 54 = .ok (.aload 8, 2) := by decide +kernel
theorem dX7_all_56 : decode cX7_all 56 = .ok (.invokevirtual 199, 3) := by decide +kernel
theorem dX7_all_59 : decode cX7_all 59 = .ok (.ladd, 1) := by decide +kernel
theorem dX7_all_60 : decode cX7_all 60 = .ok (.lstore_n 3, 1) := by decide +kernel
theorem dX7_all_61 : decode cX7_all 61 = .ok (.iinc 7 1, 3) := by decide +kernel
theorem dX7_all_64 : decode cX7_all 64 = .ok (.goto (-30), 3) := by decide +kernel
theorem dX7_all_67 : decode cX7_all 67 = .ok (.aload_n 0, 1) := by decide +kernel
theorem dX7_all_68 : decode cX7_all 68 = .ok (.lload_n 3, 1) := by decide +kernel
theorem dX7_all_69 : decode cX7_all 69 = .ok (.invokevirtual 123, 3) := by decide +kernel
theorem dX7_all_72 : decode cX7_all 72 = .ok (.lreturn, 1) := by decide +kernel
theorem dX7_count_0 : decode cX7_count 0 = .ok (.iload_n 1, 1) := by decide +kernel
theorem dX7_count_1 : decode cX7_count 1 = .ok (.tableswitch 60 0 4 #[35, 40, 45, 50, 55], 35) := by decide +kernel
theorem dX7_count_36 : decode cX7_count 36 = .ok (.aload_n 0, 1) := by decide +kernel
theorem dX7_count_37 : decode cX7_count 37 = .ok (.getfield 39, 3) := by decide +kernel
theorem dX7_count_40 : decode cX7_count 40 = .ok (.ireturn, 1) := by decide +kernel
theorem dX7_count_41 : decode cX7_count 41 = .ok (.aload_n 0, 1) := by decide +kernel
theorem dX7_count_42 : decode cX7_count 42 = .ok (.getfield 43, 3) := by decide +kernel
theorem dX7_count_45 : decode cX7_count 45 = .ok (.ireturn, 1) := by decide +kernel
theorem dX7_count_46 : decode cX7_count 46 = .ok (.aload_n 0, 1) := by decide +kernel
theorem dX7_count_47 : decode cX7_count 47 = .ok (.getfield 46, 3) := by decide +kernel
theorem dX7_count_50 : decode cX7_count 50 = .ok (.ireturn, 1) := by decide +kernel
theorem dX7_count_51 : decode cX7_count 51 = .ok (.aload_n 0, 1) := by decide +kernel
theorem dX7_count_52 : decode cX7_count 52 = .ok (.getfield 49, 3) := by decide +kernel
theorem dX7_count_55 : decode cX7_count 55 = .ok (.ireturn, 1) := by decide +kernel
theorem dX7_count_56 : decode cX7_count 56 = .ok (.aload_n 0, 1) := by decide +kernel
theorem dX7_count_57 : decode cX7_count 57 = .ok (.getfield 52, 3) := by decide +kernel
theorem dX7_count_60 : decode cX7_count 60 = .ok (.ireturn, 1) := by decide +kernel
theorem dX7_count_61 : decode cX7_count 61 = .ok (.bipush (-2), 2) := by decide +kernel
theorem dX7_count_63 : decode cX7_count 63 = .ok (.ireturn, 1) := by decide +kernel
theorem dX7_often_0 : decode cX7_often 0 = .ok (.iload_n 1, 1) := by decide +kernel
theorem dX7_often_1 : decode cX7_often 1 = .ok (.bipush (-3), 2) := by decide +kernel
theorem dX7_often_3 : decode cX7_often 3 = .ok (.if_icmp .gt 21, 3) := by decide +kernel
theorem dX7_often_6 : decode cX7_often 6 = .ok (.iload_n 1, 1) := by decide +kernel
theorem dX7_often_7 : decode cX7_often 7 = .ok (.bipush (-10), 2) := by decide +kernel
theorem dX7_often_9 : decode cX7_often 9 = .ok (.if_icmp .lt 15, 3) := by decide +kernel
theorem dX7_often_12 : decode cX7_often 12 = .ok (.aload_n 0, 1) := by decide +kernel
theorem dX7_often_13 : decode cX7_often 13 = .ok (.getfield 55, 3) := by decide +kernel
theorem dX7_often_16 : decode cX7_often 16 = .ok (.bipush (-3), 2) := by decide +kernel
theorem dX7_often_18 : decode cX7_often 18 = .ok (.iload_n 1, 1) := by decide +kernel
theorem dX7_often_19 : decode cX7_often 19 = .ok (.isub, 1) := by decide +kernel
theorem dX7_often_20 : decode cX7_often 20 = .ok (.iaload, 1) := by decide +kernel
theorem dX7_often_21 : decode cX7_often 21 = .ok (.goto 4, 3) := by decide +kernel
theorem dX7_often_24 : decode cX7_often 24 = .ok (.iconst 0, 1) := by decide +kernel
theorem dX7_often_25 : decode cX7_often 25 = .ok (.ireturn, 1) := by decide +kernel
theorem dX7_refused_0 : decode cX7_refused 0 = .ok (.aload_n 0, 1) := by decide +kernel
theorem dX7_refused_1 : decode cX7_refused 1 = .ok (.getfield 59, 3) := by decide +kernel
theorem dX7_refused_4 : decode cX7_refused 4 = .ok (.ireturn, 1) := by decide +kernel
theorem dX7_answer_0 : decode cX7_answer 0 = .ok (.aload_n 0, 1) := by decide +kernel
theorem dX7_answer_1 : decode cX7_answer 1 = .ok (.iconst 0, 1) := by decide +kernel
theorem dX7_answer_2 : decode cX7_answer 2 = .ok (.putfield 59, 3) := by decide +kernel
theorem dX7_answer_5 : decode cX7_answer 5 = .ok (.iload_n 1, 1) := by decide +kernel
theorem dX7_answer_6 : decode cX7_answer 6 = .ok (.ireturn, 1) := by decide +kernel
theorem dX7_answerLong_0 : decode cX7_answerLong 0 = .ok (.aload_n 0, 1) := by decide +kernel
theorem dX7_answerLong_1 : decode cX7_answerLong 1 = .ok (.iconst 0, 1) := by decide +kernel
theorem dX7_answerLong_2 : decode cX7_answerLong 2 = .ok (.putfield 59, 3) := by decide +kernel
theorem dX7_answerLong_5 : decode cX7_answerLong 5 = .ok (.lload_n 1, 1) := by decide +kernel
theorem dX7_answerLong_6 : decode cX7_answerLong 6 = .ok (.lreturn, 1) := by decide +kernel
theorem dX7_refuse_0 : decode cX7_refuse 0 = .ok (.aload_n 0, 1) := by decide +kernel
theorem dX7_refuse_1 : decode cX7_refuse 1 = .ok (.iload_n 1, 1) := by decide +kernel
theorem dX7_refuse_2 : decode cX7_refuse 2 = .ok (.putfield 59, 3) := by decide +kernel
theorem dX7_refuse_5 : decode cX7_refuse 5 = .ok (.iload_n 1, 1) := by decide +kernel
theorem dX7_refuse_6 : decode cX7_refuse 6 = .ok (.bipush (-3), 2) := by decide +kernel
theorem dX7_refuse_8 : decode cX7_refuse 8 = .ok (.if_icmp .gt 22, 3) := by decide +kernel
theorem dX7_refuse_11 : decode cX7_refuse 11 = .ok (.iload_n 1, 1) := by decide +kernel
theorem dX7_refuse_12 : decode cX7_refuse 12 = .ok (.bipush (-10), 2) := by decide +kernel
theorem dX7_refuse_14 : decode cX7_refuse 14 = .ok (.if_icmp .lt 16, 3) := by decide +kernel
theorem dX7_refuse_17 : decode cX7_refuse 17 = .ok (.aload_n 0, 1) := by decide +kernel
theorem dX7_refuse_18 : decode cX7_refuse 18 = .ok (.getfield 55, 3) := by decide +kernel
theorem dX7_refuse_21 : decode cX7_refuse 21 = .ok (.bipush (-3), 2) := by decide +kernel
theorem dX7_refuse_23 : decode cX7_refuse 23 = .ok (.iload_n 1, 1) := by decide +kernel
theorem dX7_refuse_24 : decode cX7_refuse 24 = .ok (.isub, 1) := by decide +kernel
theorem dX7_refuse_25 : decode cX7_refuse 25 = .ok (.dup2, 1) := by decide +kernel
theorem dX7_refuse_26 : decode cX7_refuse 26 = .ok (.iaload, 1) := by decide +kernel
theorem dX7_refuse_27 : decode cX7_refuse 27 = .ok (.iconst 1, 1) := by decide +kernel
theorem dX7_refuse_28 : decode cX7_refuse 28 = .ok (.iadd, 1) := by decide +kernel
theorem dX7_refuse_29 : decode cX7_refuse 29 = .ok (.iastore, 1) := by decide +kernel
theorem dX7_refuse_30 : decode cX7_refuse 30 = .ok (.iload_n 1, 1) := by decide +kernel
theorem dX7_refuse_31 : decode cX7_refuse 31 = .ok (.ireturn, 1) := by decide +kernel
set_option maxRecDepth 20000 in
theorem ggX7_refuseAnyNumber_X7_refuse : GoodIn wsX7_refuseAnyNumber wsX7_refuse := goodIn_r _ [5, 6, 7, 8, 9, 10, 11, 12, 13, 14, 15, 16, 17, 18, 19] (by decide +kernel) (by decide +kernel)
set_option maxRecDepth 20000 in
theorem gX7_refuseAnyNumber_X7_refuse : GoodIn wsX7_refuseAnyNumber (wsV RX7 68 RX7 yX7_refuse wsX7_refuse) := goodIn_app (goodIn_of _ (by decide +kernel)) ggX7_refuseAnyNumber_X7_refuse
theorem dX7_refuseAnyNumber_0 : decode cX7_refuseAnyNumber 0 = .ok (.aload_n 0, 1) := by decide +kernel
theorem dX7_refuseAnyNumber_1 : decode cX7_refuseAnyNumber 1 = .ok (.iload_n 1, 1) := by decide +kernel
theorem dX7_refuseAnyNumber_2 : decode cX7_refuseAnyNumber 2 = .ok (.invokevirtual 68, 3) := by decide +kernel
theorem dX7_refuseAnyNumber_5 : decode cX7_refuseAnyNumber 5 = .ok (.pop, 1) := by decide +kernel
theorem dX7_refuseAnyNumber_6 : decode cX7_refuseAnyNumber 6 = .ok (.iconst 0, 1) := by decide +kernel
theorem dX7_refuseAnyNumber_7 : decode cX7_refuseAnyNumber 7 = .ok (.ireturn, 1) := by decide +kernel
theorem dX7_wheelAt_0 : decode cX7_wheelAt 0 = .ok (.iload_n 1, 1) := by decide +kernel
theorem dX7_wheelAt_1 : decode cX7_wheelAt 1 = .ok (.ifCond .lt 20, 3) := by decide +kernel
theorem dX7_wheelAt_4 : decode cX7_wheelAt 4 = .ok (.iload_n 1, 1) := by decide +kernel
theorem dX7_wheelAt_5 : decode cX7_wheelAt 5 = .ok (.aload_n 0, 1) := by decide +kernel
theorem dX7_wheelAt_6 : decode cX7_wheelAt 6 = .ok (.getfield 39, 3) := by decide +kernel
theorem dX7_wheelAt_9 : decode cX7_wheelAt 9 = .ok (.if_icmp .ge 12, 3) := by decide +kernel
theorem dX7_wheelAt_12 : decode cX7_wheelAt 12 = .ok (.aload_n 0, 1) := by decide +kernel
theorem dX7_wheelAt_13 : decode cX7_wheelAt 13 = .ok (.getfield 11, 3) := by decide +kernel
theorem dX7_wheelAt_16 : decode cX7_wheelAt 16 = .ok (.iload_n 1, 1) := by decide +kernel
theorem dX7_wheelAt_17 : decode cX7_wheelAt 17 = .ok (.aaload, 1) := by decide +kernel
theorem dX7_wheelAt_18 : decode cX7_wheelAt 18 = .ok (.goto 4, 3) := by decide +kernel
theorem dX7_wheelAt_21 : decode cX7_wheelAt 21 = .ok (.aconst_null, 1) := by decide +kernel
theorem dX7_wheelAt_22 : decode cX7_wheelAt 22 = .ok (.areturn, 1) := by decide +kernel
theorem dX7_registerAt_0 : decode cX7_registerAt 0 = .ok (.iload_n 1, 1) := by decide +kernel
theorem dX7_registerAt_1 : decode cX7_registerAt 1 = .ok (.ifCond .lt 20, 3) := by decide +kernel
theorem dX7_registerAt_4 : decode cX7_registerAt 4 = .ok (.iload_n 1, 1) := by decide +kernel
theorem dX7_registerAt_5 : decode cX7_registerAt 5 = .ok (.aload_n 0, 1) := by decide +kernel
theorem dX7_registerAt_6 : decode cX7_registerAt 6 = .ok (.getfield 43, 3) := by decide +kernel
theorem dX7_registerAt_9 : decode cX7_registerAt 9 = .ok (.if_icmp .ge 12, 3) := by decide +kernel
theorem dX7_registerAt_12 : decode cX7_registerAt 12 = .ok (.aload_n 0, 1) := by decide +kernel
theorem dX7_registerAt_13 : decode cX7_registerAt 13 = .ok (.getfield 17, 3) := by decide +kernel
theorem dX7_registerAt_16 : decode cX7_registerAt 16 = .ok (.iload_n 1, 1) := by decide +kernel
theorem dX7_registerAt_17 : decode cX7_registerAt 17 = .ok (.aaload, 1) := by decide +kernel
theorem dX7_registerAt_18 : decode cX7_registerAt 18 = .ok (.goto 4, 3) := by decide +kernel
theorem dX7_registerAt_21 : decode cX7_registerAt 21 = .ok (.aconst_null, 1) := by decide +kernel
theorem dX7_registerAt_22 : decode cX7_registerAt 22 = .ok (.areturn, 1) := by decide +kernel
theorem dX7_stripAt_0 : decode cX7_stripAt 0 = .ok (.iload_n 1, 1) := by decide +kernel
theorem dX7_stripAt_1 : decode cX7_stripAt 1 = .ok (.ifCond .lt 20, 3) := by decide +kernel
theorem dX7_stripAt_4 : decode cX7_stripAt 4 = .ok (.iload_n 1, 1) := by decide +kernel
theorem dX7_stripAt_5 : decode cX7_stripAt 5 = .ok (.aload_n 0, 1) := by decide +kernel
theorem dX7_stripAt_6 : decode cX7_stripAt 6 = .ok (.getfield 46, 3) := by decide +kernel
theorem dX7_stripAt_9 : decode cX7_stripAt 9 = .ok (.if_icmp .ge 12, 3) := by decide +kernel
theorem dX7_stripAt_12 : decode cX7_stripAt 12 = .ok (.aload_n 0, 1) := by decide +kernel
theorem dX7_stripAt_13 : decode cX7_stripAt 13 = .ok (.getfield 23, 3) := by decide +kernel
theorem dX7_stripAt_16 : decode cX7_stripAt 16 = .ok (.iload_n 1, 1) := by decide +kernel
theorem dX7_stripAt_17 : decode cX7_stripAt 17 = .ok (.aaload, 1) := by decide +kernel
theorem dX7_stripAt_18 : decode cX7_stripAt 18 = .ok (.goto 4, 3) := by decide +kernel
theorem dX7_stripAt_21 : decode cX7_stripAt 21 = .ok (.aconst_null, 1) := by decide +kernel
theorem dX7_stripAt_22 : decode cX7_stripAt 22 = .ok (.areturn, 1) := by decide +kernel
theorem dX7_pointerAt_0 : decode cX7_pointerAt 0 = .ok (.iload_n 1, 1) := by decide +kernel
theorem dX7_pointerAt_1 : decode cX7_pointerAt 1 = .ok (.ifCond .lt 20, 3) := by decide +kernel
theorem dX7_pointerAt_4 : decode cX7_pointerAt 4 = .ok (.iload_n 1, 1) := by decide +kernel
theorem dX7_pointerAt_5 : decode cX7_pointerAt 5 = .ok (.aload_n 0, 1) := by decide +kernel
theorem dX7_pointerAt_6 : decode cX7_pointerAt 6 = .ok (.getfield 49, 3) := by decide +kernel
theorem dX7_pointerAt_9 : decode cX7_pointerAt 9 = .ok (.if_icmp .ge 12, 3) := by decide +kernel
theorem dX7_pointerAt_12 : decode cX7_pointerAt 12 = .ok (.aload_n 0, 1) := by decide +kernel
theorem dX7_pointerAt_13 : decode cX7_pointerAt 13 = .ok (.getfield 29, 3) := by decide +kernel
theorem dX7_pointerAt_16 : decode cX7_pointerAt 16 = .ok (.iload_n 1, 1) := by decide +kernel
theorem dX7_pointerAt_17 : decode cX7_pointerAt 17 = .ok (.aaload, 1) := by decide +kernel
theorem dX7_pointerAt_18 : decode cX7_pointerAt 18 = .ok (.goto 4, 3) := by decide +kernel
theorem dX7_pointerAt_21 : decode cX7_pointerAt 21 = .ok (.aconst_null, 1) := by decide +kernel
theorem dX7_pointerAt_22 : decode cX7_pointerAt 22 = .ok (.areturn, 1) := by decide +kernel
theorem dX7_standAt_0 : decode cX7_standAt 0 = .ok (.iload_n 1, 1) := by decide +kernel
theorem dX7_standAt_1 : decode cX7_standAt 1 = .ok (.ifCond .lt 20, 3) := by decide +kernel
theorem dX7_standAt_4 : decode cX7_standAt 4 = .ok (.iload_n 1, 1) := by decide +kernel
theorem dX7_standAt_5 : decode cX7_standAt 5 = .ok (.aload_n 0, 1) := by decide +kernel
theorem dX7_standAt_6 : decode cX7_standAt 6 = .ok (.getfield 52, 3) := by decide +kernel
theorem dX7_standAt_9 : decode cX7_standAt 9 = .ok (.if_icmp .ge 12, 3) := by decide +kernel
theorem dX7_standAt_12 : decode cX7_standAt 12 = .ok (.aload_n 0, 1) := by decide +kernel
theorem dX7_standAt_13 : decode cX7_standAt 13 = .ok (.getfield 35, 3) := by decide +kernel
theorem dX7_standAt_16 : decode cX7_standAt 16 = .ok (.iload_n 1, 1) := by decide +kernel
theorem dX7_standAt_17 : decode cX7_standAt 17 = .ok (.aaload, 1) := by decide +kernel
theorem dX7_standAt_18 : decode cX7_standAt 18 = .ok (.goto 4, 3) := by decide +kernel
theorem dX7_standAt_21 : decode cX7_standAt 21 = .ok (.aconst_null, 1) := by decide +kernel
theorem dX7_standAt_22 : decode cX7_standAt 22 = .ok (.areturn, 1) := by decide +kernel
set_option maxRecDepth 20000 in
theorem ggX7_putAt_X4_hasPlace : GoodIn wsX7_putAt wsX4_hasPlace := goodIn_r _ [7, 8, 27, 28] (by decide +kernel) (by decide +kernel)
set_option maxRecDepth 20000 in
theorem gX7_putAt_X4_hasPlace : GoodIn wsX7_putAt (wsV RX7 194 RX4 yX4_hasPlace wsX4_hasPlace) := goodIn_app (goodIn_of _ (by decide +kernel)) ggX7_putAt_X4_hasPlace
set_option maxRecDepth 20000 in
theorem ggX7_putAt_X7_refuse : GoodIn wsX7_putAt wsX7_refuse := goodIn_r _ [13, 14, 15, 29, 30, 31, 32, 33, 34, 35, 36, 37, 38, 39, 40] (by decide +kernel) (by decide +kernel)
set_option maxRecDepth 20000 in
theorem gX7_putAt_X7_refuse : GoodIn wsX7_putAt (wsV RX7 68 RX7 yX7_refuse wsX7_refuse) := goodIn_app (goodIn_of _ (by decide +kernel)) ggX7_putAt_X7_refuse
set_option maxRecDepth 20000 in
theorem ggX7_putAt_X4_isWideFor : GoodIn wsX7_putAt wsX4_isWideFor := goodIn_r _ [19, 20, 27, 28] (by decide +kernel) (by decide +kernel)
set_option maxRecDepth 20000 in
theorem gX7_putAt_X4_isWideFor : GoodIn wsX7_putAt (wsV RX7 203 RX4 yX4_isWideFor wsX4_isWideFor) := goodIn_app (goodIn_of _ (by decide +kernel)) ggX7_putAt_X4_isWideFor
set_option maxRecDepth 20000 in
theorem ggX7_putAt_X7_answer : GoodIn wsX7_putAt wsX7_answer := goodIn_r _ [24, 14, 29, 30, 31, 32, 33, 34, 35, 36, 37, 38, 39, 40] (by decide +kernel) (by decide +kernel)
set_option maxRecDepth 20000 in
theorem gX7_putAt_X7_answer : GoodIn wsX7_putAt (wsV RX7 84 RX7 yX7_answer wsX7_answer) := goodIn_app (goodIn_of _ (by decide +kernel)) ggX7_putAt_X7_answer
theorem dX7_putAt_0 : decode cX7_putAt 0 = .ok (.aload_n 1, 1) := by decide +kernel
theorem dX7_putAt_1 : decode cX7_putAt 1 = .ok (.iload_n 2, 1) := by decide +kernel
theorem dX7_putAt_2 : decode cX7_putAt 2 = .ok (.invokevirtual 194, 3) := by decide +kernel
theorem dX7_putAt_5 : decode cX7_putAt 5 = .ok (.ifCond .ne 10, 3) := by decide +kernel
theorem dX7_putAt_8 : decode cX7_putAt 8 = .ok (.aload_n 0, 1) := by decide +kernel
theorem dX7_putAt_9 : decode cX7_putAt 9 = .ok (.bipush (-8), 2) := by decide +kernel
theorem dX7_putAt_11 : decode cX7_putAt 11 = .ok (.invokevirtual 68, 3) := by decide +kernel
theorem dX7_putAt_14 : decode cX7_putAt 14 = .ok (.ireturn, 1) := by decide +kernel
theorem dX7_putAt_15 : decode cX7_putAt 15 = .ok (.aload_n 3, 1) := by decide +kernel
theorem dX7_putAt_16 : decode cX7_putAt 16 = .ok (.ifnull 21, 3) := by decide +kernel
theorem dX7_putAt_19 : decode cX7_putAt 19 = .ok (.aload_n 1, 1) := by decide +kernel
theorem dX7_putAt_20 : decode cX7_putAt 20 = .ok (.aload_n 3, 1) := by decide +kernel
theorem dX7_putAt_21 : decode cX7_putAt 21 = .ok (.getfield 189, 3) := by decide +kernel
theorem dX7_putAt_24 : decode cX7_putAt 24 = .ok (.invokevirtual 203, 3) := by decide +kernel
theorem dX7_putAt_27 : decode cX7_putAt 27 = .ok (.ifCond .ne 10, 3) := by decide +kernel
theorem dX7_putAt_30 : decode cX7_putAt 30 = .ok (.aload_n 0, 1) := by decide +kernel
theorem dX7_putAt_31 : decode cX7_putAt 31 = .ok (.bipush (-9), 2) := by decide +kernel
theorem dX7_putAt_33 : decode cX7_putAt 33 = .ok (.invokevirtual 68, 3) := by decide +kernel
theorem dX7_putAt_36 : decode cX7_putAt 36 = .ok (.ireturn, 1) := by decide +kernel
theorem dX7_putAt_37 : decode cX7_putAt 37 = .ok (.aload_n 1, 1) := by decide +kernel
theorem dX7_putAt_38 : decode cX7_putAt 38 = .ok (.getfield 197, 3) := by decide +kernel
theorem dX7_putAt_41 : decode cX7_putAt 41 = .ok (.iload_n 2, 1) := by decide +kernel
theorem dX7_putAt_42 : decode cX7_putAt 42 = .ok (.aload_n 3, 1) := by decide +kernel
theorem dX7_putAt_43 : decode cX7_putAt 43 = .ok (.aastore, 1) := by decide +kernel
theorem dX7_putAt_44 : decode cX7_putAt 44 = .ok (.aload_n 0, 1) := by decide +kernel
theorem dX7_putAt_45 : decode cX7_putAt 45 = .ok (.iconst 1, 1) := by decide +kernel
theorem dX7_putAt_46 : decode cX7_putAt 46 = .ok (.invokevirtual 84, 3) := by decide +kernel
theorem dX7_putAt_49 : decode cX7_putAt 49 = .ok (.ireturn, 1) := by decide +kernel
