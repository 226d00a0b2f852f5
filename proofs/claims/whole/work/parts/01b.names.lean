theorem dX0_isKind_0 : decode cX0_isKind 0 = .ok (.iload_n 0, 1) := by decide +kernel
theorem dX0_isKind_1 : decode cX0_isKind 1 = .ok (.ifCond .lt 12, 3) := by decide +kernel
theorem dX0_isKind_4 : decode cX0_isKind 4 = .ok (.iload_n 0, 1) := by decide +kernel
theorem dX0_isKind_5 : decode cX0_isKind 5 = .ok (.iconst 3, 1) := by decide +kernel
theorem dX0_isKind_6 : decode cX0_isKind 6 = .ok (.if_icmp .gt 7, 3) := by decide +kernel
theorem dX0_isKind_9 : decode cX0_isKind 9 = .ok (.iconst 1, 1) := by decide +kernel
theorem dX0_isKind_10 : decode cX0_isKind 10 = .ok (.goto 4, 3) := by decide +kernel
theorem dX0_isKind_13 : decode cX0_isKind 13 = .ok (.iconst 0, 1) := by decide +kernel
theorem dX0_isKind_14 : decode cX0_isKind 14 = .ok (.ireturn, 1) := by decide +kernel
set_option maxRecDepth 20000 in
theorem ggX0_isNumber_X2_isNumber : GoodIn wsX0_isNumber wsX2_isNumber := goodIn_r _ [4, 5, 6, 3, 7, 8, 9, 10, 11, 12, 13, 14, 15, 16, 17] (by decide +kernel) (by decide +kernel)
set_option maxRecDepth 20000 in
theorem gX0_isNumber_X2_isNumber : GoodIn wsX0_isNumber (va_wsS RX0 9 yX2_isNumber wsX2_isNumber) := goodIn_app (goodIn_of _ (by decide +kernel)) ggX0_isNumber_X2_isNumber
theorem dX0_isNumber_0 : decode cX0_isNumber 0 = .ok (.iload_n 0, 1) := by decide +kernel
theorem dX0_isNumber_1 : decode cX0_isNumber 1 = .ok (.iconst 1, 1) := by decide +kernel
theorem dX0_isNumber_2 : decode cX0_isNumber 2 = .ok (.if_icmp .le 11, 3) := by decide +kernel
theorem dX0_isNumber_5 : decode cX0_isNumber 5 = .ok (.iload_n 0, 1) := by decide +kernel
theorem dX0_isNumber_6 : decode cX0_isNumber 6 = .ok (.lload_n 1, 1) := by decide +kernel
theorem dX0_isNumber_7 : decode cX0_isNumber 7 = .ok (.invokestatic 9, 3) := by decide +kernel
theorem dX0_isNumber_10 : decode cX0_isNumber 10 = .ok (.ifCond .eq 7, 3) := by decide +kernel
theorem dX0_isNumber_13 : decode cX0_isNumber 13 = .ok (.iconst 1, 1) := by decide +kernel
theorem dX0_isNumber_14 : decode cX0_isNumber 14 = .ok (.goto 4, 3) := by decide +kernel
theorem dX0_isNumber_17 : decode cX0_isNumber 17 = .ok (.iconst 0, 1) := by decide +kernel
theorem dX0_isNumber_18 : decode cX0_isNumber 18 = .ok (.ireturn, 1) := by decide +kernel
set_option maxRecDepth 20000 in
theorem ggX0_cast_X0_castWhole : GoodIn wsX0_cast wsX0_castWhole := goodIn_r _ [4, 5, 6, 7, 8, 9, 10, 11, 12, 13, 14, 15, 16, 17, 18, 19, 20, 21, 22, 23, 24, 25, 26, 27, 28, 29, 30, 31, 32, 33, 34, 35, 36, 37, 38, 39, 40, 41, 42, 43, 44, 45] (by decide +kernel) (by decide +kernel)
set_option maxRecDepth 20000 in
theorem gX0_cast_X0_castWhole : GoodIn wsX0_cast (va_wsS RX0 15 yX0_castWhole wsX0_castWhole) := goodIn_app (goodIn_of _ (by decide +kernel)) ggX0_cast_X0_castWhole
set_option maxRecDepth 20000 in
theorem ggX0_cast_X2_valueOf : GoodIn wsX0_cast wsX2_valueOf := goodIn_r _ [48, 49, 50, 7, 51, 41, 42, 43, 44, 45, 52, 53, 54, 28, 29, 30, 55, 56, 57, 58, 59, 60, 61, 31, 32, 33, 62, 63, 64, 13] (by decide +kernel) (by decide +kernel)
set_option maxRecDepth 20000 in
theorem gX0_cast_X2_valueOf : GoodIn wsX0_cast (va_wsS RX0 21 yX2_valueOf wsX2_valueOf) := goodIn_app (goodIn_of _ (by decide +kernel)) ggX0_cast_X2_valueOf
set_option maxRecDepth 20000 in
theorem ggX0_cast_X0_castReal : GoodIn wsX0_cast wsX0_castReal := goodIn_r _ [67, 5, 6, 7, 8, 9, 10, 11, 12, 13, 14, 15, 16, 17, 18, 19, 20, 21, 22, 23, 24, 25, 26, 27, 28, 29, 30, 31, 32, 33, 34, 35, 36, 37, 38, 39, 40, 41, 42, 43, 44, 45] (by decide +kernel) (by decide +kernel)
set_option maxRecDepth 20000 in
theorem gX0_cast_X0_castReal : GoodIn wsX0_cast (va_wsS RX0 25 yX0_castReal wsX0_castReal) := goodIn_app (goodIn_of _ (by decide +kernel)) ggX0_cast_X0_castReal
theorem dX0_cast_0 : decode cX0_cast 0 = .ok (.iload_n 0, 1) := by decide +kernel
theorem dX0_cast_1 : decode cX0_cast 1 = .ok (.iload_n 3, 1) := by decide +kernel
theorem dX0_cast_2 : decode cX0_cast 2 = .ok (.if_icmp .ne 5, 3) := by decide +kernel
theorem dX0_cast_5 : decode cX0_cast 5 = .ok (.lload_n 1, 1) := by decide +kernel
theorem dX0_cast_6 : decode cX0_cast 6 = .ok (.lreturn, 1) := by decide +kernel
theorem dX0_cast_7 : decode cX0_cast 7 = .ok (.iload_n 0, 1) := by decide +kernel
theorem dX0_cast_8 : decode cX0_cast 8 = .ok (.iconst 1, 1) := by decide +kernel
theorem dX0_cast_9 : decode cX0_cast 9 = .ok (.if_icmp .gt 11, 3) := by decide +kernel
theorem dX0_cast_12 : decode cX0_cast 12 = .ok (.lload_n 1, 1) := by decide +kernel
theorem dX0_cast_13 : decode cX0_cast 13 = .ok (.iload_n 3, 1) := by decide +kernel
theorem dX0_cast_14 : decode cX0_cast 14 = .ok (.invokestatic 15, 3) := by decide +kernel
theorem dX0_cast_17 : decode cX0_cast 17 = .ok (.goto 12, 3) := by decide +kernel
theorem dX0_cast_20 : decode cX0_cast 20 = .ok (.iload_n 0, 1) := by decide +kernel
theorem dX0_cast_21 : decode cX0_cast 21 = .ok (.lload_n 1, 1) := by decide +kernel
theorem dX0_cast_22 : decode cX0_cast 22 = .ok (.invokestatic 21, 3) := by decide +kernel
theorem dX0_cast_25 : decode cX0_cast 25 = .ok (.iload_n 3, 1) := by decide +kernel
theorem dX0_cast_26 : decode cX0_cast 26 = .ok (.invokestatic 25, 3) := by decide +kernel
theorem dX0_cast_29 : decode cX0_cast 29 = .ok (.lreturn, 1) := by decide +kernel
set_option maxRecDepth 20000 in
theorem ggX0_castWhole_X2_bitsOf : GoodIn wsX0_castWhole wsX2_bitsOf := goodIn_r _ [4, 5, 6, 3, 7, 8, 9, 10, 11, 12, 13, 14, 15, 16, 17, 18, 19, 20, 21, 22, 23, 24, 25, 26, 27, 28, 29, 30, 31, 32, 33, 34, 35, 36, 37, 38, 39, 40, 41] (by decide +kernel) (by decide +kernel)
set_option maxRecDepth 20000 in
theorem gX0_castWhole_X2_bitsOf : GoodIn wsX0_castWhole (va_wsS RX0 29 yX2_bitsOf wsX2_bitsOf) := goodIn_app (goodIn_of _ (by decide +kernel)) ggX0_castWhole_X2_bitsOf
theorem dX0_castWhole_0 : decode cX0_castWhole 0 = .ok (.iload_n 2, 1) := by decide +kernel
theorem dX0_castWhole_1 : decode cX0_castWhole 1 = .ok (.tableswitch 41 0 2 #[27, 31, 33], 27) := by decide +kernel
theorem dX0_castWhole_28 : decode cX0_castWhole 28 = .ok (.lload_n 0, 1) := by decide +kernel
theorem dX0_castWhole_29 : decode cX0_castWhole 29 = .ok (.l2i, 1) := by decide +kernel
theorem dX0_castWhole_30 : decode cX0_castWhole 30 = .ok (.i2l, 1) := by decide +kernel
theorem dX0_castWhole_31 : decode cX0_castWhole 31 = .ok (.lreturn, 1) := by decide +kernel
theorem dX0_castWhole_32 : decode cX0_castWhole 32 = .ok (.lload_n 0, 1) := by decide +kernel
theorem dX0_castWhole_33 : decode cX0_castWhole 33 = .ok (.lreturn, 1) := by decide +kernel
theorem dX0_castWhole_34 : decode cX0_castWhole 34 = .ok (.iconst 2, 1) := by decide +kernel
theorem dX0_castWhole_35 : decode cX0_castWhole 35 = .ok (.lload_n 0, 1) := by decide +kernel
theorem dX0_castWhole_36 : decode cX0_castWhole 36 = .ok (.l2f, 1) := by decide +kernel
theorem dX0_castWhole_37 : decode cX0_castWhole 37 = .ok (.f2d, 1) := by decide +kernel
theorem dX0_castWhole_38 : decode cX0_castWhole 38 = .ok (.invokestatic 29, 3) := by decide +kernel
theorem dX0_castWhole_41 : decode cX0_castWhole 41 = .ok (.lreturn, 1) := by decide +kernel
theorem dX0_castWhole_42 : decode cX0_castWhole 42 = .ok (.iconst 3, 1) := by decide +kernel
theorem dX0_castWhole_43 : decode cX0_castWhole 43 = .ok (.lload_n 0, 1) := by decide +kernel
theorem dX0_castWhole_44 : decode cX0_castWhole 44 = .ok (.l2d, 1) := by decide +kernel
theorem dX0_castWhole_45 : decode cX0_castWhole 45 = .ok (.invokestatic 29, 3) := by decide +kernel
theorem dX0_castWhole_48 : decode cX0_castWhole 48 = .ok (.lreturn, 1) := by decide +kernel
set_option maxRecDepth 20000 in
theorem ggX0_castReal_X2_bitsOf : GoodIn wsX0_castReal wsX2_bitsOf := goodIn_r _ [4, 5, 6, 3, 7, 8, 9, 10, 11, 12, 13, 14, 15, 16, 17, 18, 19, 20, 21, 22, 23, 24, 25, 26, 27, 28, 29, 30, 31, 32, 33, 34, 35, 36, 37, 38, 39, 40, 41] (by decide +kernel) (by decide +kernel)
set_option maxRecDepth 20000 in
theorem gX0_castReal_X2_bitsOf : GoodIn wsX0_castReal (va_wsS RX0 29 yX2_bitsOf wsX2_bitsOf) := goodIn_app (goodIn_of _ (by decide +kernel)) ggX0_castReal_X2_bitsOf
theorem dX0_castReal_0 : decode cX0_castReal 0 = .ok (.iload_n 2, 1) := by decide +kernel
theorem dX0_castReal_1 : decode cX0_castReal 1 = .ok (.tableswitch 42 0 2 #[27, 31, 34], 27) := by decide +kernel
theorem dX0_castReal_28 : decode cX0_castReal 28 = .ok (.dload_n 0, 1) := by decide +kernel
theorem dX0_castReal_29 : decode cX0_castReal 29 = .ok (.d2i, 1) := by decide +kernel
theorem dX0_castReal_30 : decode cX0_castReal 30 = .ok (.i2l, 1) := by decide +kernel
theorem dX0_castReal_31 : decode cX0_castReal 31 = .ok (.lreturn, 1) := by decide +kernel
theorem dX0_castReal_32 : decode cX0_castReal 32 = .ok (.dload_n 0, 1) := by decide +kernel
theorem dX0_castReal_33 : decode cX0_castReal 33 = .ok (.d2l, 1) := by decide +kernel
theorem dX0_castReal_34 : decode cX0_castReal 34 = .ok (.lreturn, 1) := by decide +kernel
theorem dX0_castReal_35 : decode cX0_castReal 35 = .ok (.iconst 2, 1) := by decide +kernel
theorem dX0_castReal_36 : decode cX0_castReal 36 = .ok (.dload_n 0, 1) := by decide +kernel
theorem dX0_castReal_37 : decode cX0_castReal 37 = .ok (.d2f, 1) := by decide +kernel
theorem dX0_castReal_38 : decode cX0_castReal 38 = .ok (.f2d, 1) := by decide +kernel
theorem dX0_castReal_39 : decode cX0_castReal 39 = .ok (.invokestatic 29, 3) := by decide +kernel
theorem dX0_castReal_42 : decode cX0_castReal 42 = .ok (.lreturn, 1) := by decide +kernel
theorem dX0_castReal_43 : decode cX0_castReal 43 = .ok (.iconst 3, 1) := by decide +kernel
theorem dX0_castReal_44 : decode cX0_castReal 44 = .ok (.dload_n 0, 1) := by decide +kernel
theorem dX0_castReal_45 : decode cX0_castReal 45 = .ok (.invokestatic 29, 3) := by decide +kernel
theorem dX0_castReal_48 : decode cX0_castReal 48 = .ok (.lreturn, 1) := by decide +kernel
set_option maxRecDepth 20000 in
theorem ggX0_worked_X0_workedWhole : GoodIn wsX0_worked wsX0_workedWhole := goodIn_r _ [4] (by decide +kernel) (by decide +kernel)
set_option maxRecDepth 20000 in
theorem gX0_worked_X0_workedWhole : GoodIn wsX0_worked (va_wsS RX0 33 yX0_workedWhole wsX0_workedWhole) := goodIn_app (goodIn_of _ (by decide +kernel)) ggX0_worked_X0_workedWhole
set_option maxRecDepth 20000 in
theorem ggX0_worked_X2_restOf : GoodIn wsX0_worked wsX2_restOf := goodIn_r _ [8, 9, 10, 7, 11, 12, 13, 14, 15, 16, 17, 18, 19, 20, 21, 22, 23, 24, 25, 26, 27, 28, 29, 30, 31, 32, 33, 34, 35, 36, 37, 38, 39, 40, 41, 42, 43, 44, 45, 46, 47, 48, 49, 50, 51, 52, 53, 54] (by decide +kernel) (by decide +kernel)
set_option maxRecDepth 20000 in
theorem gX0_worked_X2_restOf : GoodIn wsX0_worked (va_wsS RX0 37 yX2_restOf wsX2_restOf) := goodIn_app (goodIn_of _ (by decide +kernel)) ggX0_worked_X2_restOf
set_option maxRecDepth 20000 in
theorem ggX0_worked_X2_valueOf : GoodIn wsX0_worked wsX2_valueOf := goodIn_r _ [57, 9, 10, 7, 11, 12, 13, 14, 15, 16, 24, 25, 26, 27, 28, 29, 30, 31, 32, 33, 34, 22, 35, 58, 59, 60, 61, 62, 63, 64] (by decide +kernel) (by decide +kernel)
set_option maxRecDepth 20000 in
theorem gX0_worked_X2_valueOf : GoodIn wsX0_worked (va_wsS RX0 21 yX2_valueOf wsX2_valueOf) := goodIn_app (goodIn_of _ (by decide +kernel)) ggX0_worked_X2_valueOf
set_option maxRecDepth 20000 in
theorem ggX0_worked_X2_worked : GoodIn wsX0_worked wsX2_worked := goodIn_r _ [67, 68, 69, 7, 70] (by decide +kernel) (by decide +kernel)
set_option maxRecDepth 20000 in
theorem gX0_worked_X2_worked : GoodIn wsX0_worked (va_wsS RX0 40 yX2_worked wsX2_worked) := goodIn_app (goodIn_of _ (by decide +kernel)) ggX0_worked_X2_worked
set_option maxRecDepth 20000 in
theorem ggX0_worked_X2_bitsOf : GoodIn wsX0_worked wsX2_bitsOf := goodIn_r _ [73, 74, 75, 7, 76, 77, 64, 78, 79, 80, 81, 82, 39, 40, 41, 42, 43, 44, 45, 46, 47, 27, 28, 29, 58, 59, 60, 48, 49, 50, 51, 52, 53, 54, 12, 13, 14, 15, 16] (by decide +kernel) (by decide +kernel)
set_option maxRecDepth 20000 in
theorem gX0_worked_X2_bitsOf : GoodIn wsX0_worked (va_wsS RX0 29 yX2_bitsOf wsX2_bitsOf) := goodIn_app (goodIn_of _ (by decide +kernel)) ggX0_worked_X2_bitsOf
theorem dX0_worked_0 : decode cX0_worked 0 = .ok (.iload_n 0, 1) := by decide +kernel
theorem dX0_worked_1 : decode cX0_worked 1 = .ok (.ifCond .ne 13, 3) := by decide +kernel
theorem dX0_worked_4 : decode cX0_worked 4 = .ok (.iload_n 1, 1) := by decide +kernel
theorem dX0_worked_5 : decode cX0_worked 5 = .ok (.lload_n 2, 1) := by decide +kernel
theorem dX0_worked_6 : decode cX0_worked 6 = .ok (.lload 4, 2) := by decide +kernel
theorem dX0_worked_8 : decode cX0_worked 8 = .ok (.invokestatic 33, 3) := by decide +kernel
theorem dX0_worked_11 : decode cX0_worked 11 = .ok (.l2i, 1) := by decide +kernel
theorem dX0_worked_12 : decode cX0_worked 12 = .ok (.i2l, 1) := by decide +kernel
theorem dX0_worked_13 : decode cX0_worked 13 = .ok (.lreturn, 1) := by decide +kernel
theorem dX0_worked_14 : decode cX0_worked 14 = .ok (.iload_n 0, 1) := by decide +kernel
theorem dX0_worked_15 : decode cX0_worked 15 = .ok (.iconst 1, 1) := by decide +kernel
theorem dX0_worked_16 : decode cX0_worked 16 = .ok (.if_icmp .ne 11, 3) := by decide +kernel
theorem dX0_worked_19 : decode cX0_worked 19 = .ok (.iload_n 1, 1) := by decide +kernel
theorem dX0_worked_20 : decode cX0_worked 20 = .ok (.lload_n 2, 1) := by decide +kernel
theorem dX0_worked_21 : decode cX0_worked 21 = .ok (.lload 4, 2) := by decide +kernel
theorem dX0_worked_23 : decode cX0_worked 23 = .ok (.invokestatic 33, 3) := by decide +kernel
theorem dX0_worked_26 : decode cX0_worked 26 = .ok (.lreturn, 1) := by decide +kernel
theorem dX0_worked_27 : decode cX0_worked 27 = .ok (.iload_n 1, 1) := by decide +kernel
theorem dX0_worked_28 : decode cX0_worked 28 = .ok (.iconst 4, 1) := by decide +kernel
theorem dX0_worked_29 : decode cX0_worked 29 = .ok (.if_icmp .ne 11, 3) := by decide +kernel
theorem dX0_worked_32 : decode cX0_worked 32 = .ok (.iload_n 0, 1) := by decide +kernel
theorem dX0_worked_33 : decode cX0_worked 33 = .ok (.lload_n 2, 1) := by decide +kernel
theorem dX0_worked_34 : decode cX0_worked 34 = .ok (.lload 4, 2) := by decide +kernel
theorem dX0_worked_36 : decode cX0_worked 36 = .ok (.invokestatic 37, 3) := by decide +kernel
theorem dX0_worked_39 : decode cX0_worked 39 = .ok (.lreturn, 1) := by decide +kernel
theorem dX0_worked_40 : decode cX0_worked 40 = .ok (.iload_n 0, 1) := by decide +kernel
theorem dX0_worked_41 : decode cX0_worked 41 = .ok (.iload_n 0, 1) := by decide +kernel
theorem dX0_worked_42 : decode cX0_worked 42 = .ok (.iload_n 1, 1) := by decide +kernel
theorem dX0_worked_43 : decode cX0_worked 43 = .ok (.iload_n 0, 1) := by decide +kernel
theorem dX0_worked_44 : decode cX0_worked 44 = .ok (.lload_n 2, 1) := by decide +kernel
theorem dX0_worked_45 : decode cX0_worked 45 = .ok (.invokestatic 21, 3) := by decide +kernel
theorem dX0_worked_48 : decode cX0_worked 48 = .ok (.iload_n 0, 1) := by decide +kernel
theorem dX0_worked_49 : decode cX0_worked 49 = .ok (.lload 4, 2) := by decide +kernel
theorem dX0_worked_51 : decode cX0_worked 51 = .ok (.invokestatic 21, 3) := by decide +kernel
theorem dX0_worked_54 : decode cX0_worked 54 = .ok (.invokestatic 40, 3) := by decide +kernel
theorem dX0_worked_57 : decode cX0_worked 57 = .ok (.invokestatic 29, 3) := by decide +kernel
theorem dX0_worked_60 : decode cX0_worked 60 = .ok (.lreturn, 1) := by decide +kernel
theorem dX0_workedWhole_0 : decode cX0_workedWhole 0 = .ok (.iload_n 0, 1) := by decide +kernel
theorem dX0_workedWhole_1 : decode cX0_workedWhole 1 = .ok (.tableswitch 57 0 3 #[31, 35, 39, 43], 31) := by decide +kernel
theorem dX0_workedWhole_32 : decode cX0_workedWhole 32 = .ok (.lload_n 1, 1) := by decide +kernel
theorem dX0_workedWhole_33 : decode cX0_workedWhole 33 = .ok (.lload_n 3, 1) := by decide +kernel
theorem dX0_workedWhole_34 : decode cX0_workedWhole 34 = .ok (.ladd, 1) := by decide +kernel
theorem dX0_workedWhole_35 : decode cX0_workedWhole 35 = .ok (.lreturn, 1) := by decide +kernel
theorem dX0_workedWhole_36 : decode cX0_workedWhole 36 = .ok (.lload_n 1, 1) := by decide +kernel
theorem dX0_workedWhole_37 : decode cX0_workedWhole 37 = .ok (.lload_n 3, 1) := by decide +kernel
theorem dX0_workedWhole_38 : decode cX0_workedWhole 38 = .ok (.lsub, 1) := by decide +kernel
theorem dX0_workedWhole_39 : decode cX0_workedWhole 39 = .ok (.lreturn, 1) := by decide +kernel
theorem dX0_workedWhole_40 : decode cX0_workedWhole 40 = .ok (.lload_n 1, 1) := by decide +kernel
theorem dX0_workedWhole_41 : decode cX0_workedWhole 41 = .ok (.lload_n 3, 1) := by decide +kernel
theorem dX0_workedWhole_42 : decode cX0_workedWhole 42 = .ok (.lmul, 1) := by decide +kernel
theorem dX0_workedWhole_43 : decode cX0_workedWhole 43 = .ok (.lreturn, 1) := by decide +kernel
theorem dX0_workedWhole_44 : decode cX0_workedWhole 44 = .ok (.lload_n 3, 1) := by decide +kernel
theorem dX0_workedWhole_45 : decode cX0_workedWhole 45 = .ok (.lconst 0, 1) := by decide +kernel
theorem dX0_workedWhole_46 : decode cX0_workedWhole 46 = .ok (.lcmp, 1) := by decide +kernel
theorem dX0_workedWhole_47 : decode cX0_workedWhole 47 = .ok (.ifCond .ne 7, 3) := by decide +kernel
theorem dX0_workedWhole_50 : decode cX0_workedWhole 50 = .ok (.lconst 0, 1) := by decide +kernel
theorem dX0_workedWhole_51 : decode cX0_workedWhole 51 = .ok (.goto 6, 3) := by decide +kernel
theorem dX0_workedWhole_54 : decode cX0_workedWhole 54 = .ok (.lload_n 1, 1) := by decide +kernel
theorem dX0_workedWhole_55 : decode cX0_workedWhole 55 = .ok (.lload_n 3, 1) := by decide +kernel
theorem dX0_workedWhole_56 : decode cX0_workedWhole 56 = .ok (.ldiv, 1) := by decide +kernel
theorem dX0_workedWhole_57 : decode cX0_workedWhole 57 = .ok (.lreturn, 1) := by decide +kernel
theorem dX0_workedWhole_58 : decode cX0_workedWhole 58 = .ok (.lload_n 3, 1) := by decide +kernel
theorem dX0_workedWhole_59 : decode cX0_workedWhole 59 = .ok (.lconst 0, 1) := by decide +kernel
theorem dX0_workedWhole_60 : decode cX0_workedWhole 60 = .ok (.lcmp, 1) := by decide +kernel
theorem dX0_workedWhole_61 : decode cX0_workedWhole 61 = .ok (.ifCond .ne 7, 3) := by decide +kernel
theorem dX0_workedWhole_64 : decode cX0_workedWhole 64 = .ok (.lconst 0, 1) := by decide +kernel
theorem dX0_workedWhole_65 : decode cX0_workedWhole 65 = .ok (.goto 6, 3) := by decide +kernel
theorem dX0_workedWhole_68 : decode cX0_workedWhole 68 = .ok (.lload_n 1, 1) := by decide +kernel
theorem dX0_workedWhole_69 : decode cX0_workedWhole 69 = .ok (.lload_n 3, 1) := by decide +kernel
theorem dX0_workedWhole_70 : decode cX0_workedWhole 70 = .ok (.lrem, 1) := by decide +kernel
theorem dX0_workedWhole_71 : decode cX0_workedWhole 71 = .ok (.lreturn, 1) := by decide +kernel
theorem dX1_init_0 : decode cX1_init 0 = .ok (.aload_n 0, 1) := by decide +kernel
theorem dX1_init_1 : decode cX1_init 1 = .ok (.invokespecial 3, 3) := by decide +kernel
theorem dX1_init_4 : decode cX1_init 4 = .ok (.aload_n 0, 1) := by decide +kernel
theorem dX1_init_5 : decode cX1_init 5 = .ok (.iload_n 1, 1) := by decide +kernel
theorem dX1_init_6 : decode cX1_init 6 = .ok (.putfield 9, 3) := by decide +kernel
theorem dX1_init_9 : decode cX1_init 9 = .ok (.aload_n 0, 1) := by decide +kernel
theorem dX1_init_10 : decode cX1_init 10 = .ok (.aload_n 2, 1) := by decide +kernel
theorem dX1_init_11 : decode cX1_init 11 = .ok (.putfield 15, 3) := by decide +kernel
theorem dX1_init_14 : decode cX1_init 14 = .ok (.return_, 1) := by decide +kernel
set_option maxRecDepth 20000 in
theorem ggX1_shown_X0_cast : GoodIn wsX1_shown wsX0_cast := goodIn_r _ [8, 9, 10, 7, 11, 12, 13, 14, 15, 16, 17, 18, 19, 20, 21, 22, 23, 24, 25, 26, 27, 28, 29, 30, 31, 32, 33, 34, 35, 36, 37, 38, 39, 40, 41, 42, 43, 44, 45, 46, 47, 48, 49, 50, 51, 52, 53, 54, 55, 56, 57, 58, 59, 60, 61, 62, 63, 64, 65, 66, 67, 68, 69, 70, 71, 72, 73, 74] (by decide +kernel) (by decide +kernel)
set_option maxRecDepth 20000 in
theorem gX1_shown_X0_cast : GoodIn wsX1_shown (va_wsS RX1 28 yX0_cast wsX0_cast) := goodIn_app (goodIn_of _ (by decide +kernel)) ggX1_shown_X0_cast
set_option maxRecDepth 20000 in
theorem ggX1_shown_X1_thousandths : GoodIn wsX1_shown wsX1_thousandths := goodIn_r _ [79, 2, 3, 4, 80, 81, 54, 14, 55, 56, 57, 58, 48, 49, 50, 51, 52, 59, 60, 61, 35, 36, 37, 62, 63, 64, 65, 66, 67, 68, 38, 39, 40, 69, 70, 71, 20, 82, 83, 84, 85, 86] (by decide +kernel) (by decide +kernel)
set_option maxRecDepth 20000 in
theorem gX1_shown_X1_thousandths : GoodIn wsX1_shown (wsV RX1 34 RX1 yX1_thousandths wsX1_thousandths) := goodIn_app (goodIn_of _ (by decide +kernel)) ggX1_shown_X1_thousandths
theorem dX1_shown_0 : decode cX1_shown 0 = .ok (.aload_n 0, 1) := by decide +kernel
theorem dX1_shown_1 : decode cX1_shown 1 = .ok (.getfield 9, 3) := by decide +kernel
theorem dX1_shown_4 : decode cX1_shown 4 = .ok (.tableswitch 62 0 2 #[28, 47, 52], 28) := by decide +kernel
theorem dX1_shown_32 : decode cX1_shown 32 = .ok (.aload_n 0, 1) := by decide +kernel
theorem dX1_shown_33 : decode cX1_shown 33 = .ok (.getfield 15, 3) := by decide +kernel
theorem dX1_shown_36 : decode cX1_shown 36 = .ok (.getfield 19, 3) := by decide +kernel
theorem dX1_shown_39 : decode cX1_shown 39 = .ok (.aload_n 0, 1) := by decide +kernel
theorem dX1_shown_40 : decode cX1_shown 40 = .ok (.getfield 15, 3) := by decide +kernel
theorem dX1_shown_43 : decode cX1_shown 43 = .ok (.getfield 24, 3) := by decide +kernel
theorem dX1_shown_46 : decode cX1_shown 46 = .ok (.iconst 0, 1) := by decide +kernel
theorem dX1_shown_47 : decode cX1_shown 47 = .ok (.invokestatic 28, 3) := by decide +kernel
theorem dX1_shown_50 : decode cX1_shown 50 = .ok (.lreturn, 1) := by decide +kernel
theorem dX1_shown_51 : decode cX1_shown 51 = .ok (.aload_n 0, 1) := by decide +kernel
theorem dX1_shown_52 : decode cX1_shown 52 = .ok (.invokevirtual 34, 3) := by decide +kernel
theorem dX1_shown_55 : decode cX1_shown 55 = .ok (.lreturn, 1) := by decide +kernel
theorem dX1_shown_56 : decode cX1_shown 56 = .ok (.iconst 1, 1) := by decide +kernel
theorem dX1_shown_57 : decode cX1_shown 57 = .ok (.aload_n 0, 1) := by decide +kernel
theorem dX1_shown_58 : decode cX1_shown 58 = .ok (.invokevirtual 34, 3) := by decide +kernel
theorem dX1_shown_61 : decode cX1_shown 61 = .ok (.iconst 2, 1) := by decide +kernel
theorem dX1_shown_62 : decode cX1_shown 62 = .ok (.invokestatic 28, 3) := by decide +kernel
theorem dX1_shown_65 : decode cX1_shown 65 = .ok (.lreturn, 1) := by decide +kernel
theorem dX1_shown_66 : decode cX1_shown 66 = .ok (.aload_n 0, 1) := by decide +kernel
theorem dX1_shown_67 : decode cX1_shown 67 = .ok (.getfield 15, 3) := by decide +kernel
theorem dX1_shown_70 : decode cX1_shown 70 = .ok (.getfield 24, 3) := by decide +kernel
theorem dX1_shown_73 : decode cX1_shown 73 = .ok (.lconst 0, 1) := by decide +kernel
theorem dX1_shown_74 : decode cX1_shown 74 = .ok (.lcmp, 1) := by decide +kernel
theorem dX1_shown_75 : decode cX1_shown 75 = .ok (.ifCond .ge 7, 3) := by decide +kernel
theorem dX1_shown_78 : decode cX1_shown 78 = .ok (.lconst 1, 1) := by decide +kernel
theorem dX1_shown_79 : decode cX1_shown 79 = .ok (.goto 4, 3) := by decide +kernel
theorem dX1_shown_82 : decode cX1_shown 82 = .ok (.lconst 0, 1) := by decide +kernel
theorem dX1_shown_83 : decode cX1_shown 83 = .ok (.lreturn, 1) := by decide +kernel
set_option maxRecDepth 20000 in
theorem ggX1_thousandths_X2_valueOf : GoodIn wsX1_thousandths wsX2_valueOf := goodIn_r _ [8, 9, 10, 7, 11, 12, 13, 14, 15, 16, 17, 18, 19, 20, 21, 22, 23, 24, 25, 26, 27, 28, 29, 30, 31, 32, 33, 34, 35, 36] (by decide +kernel) (by decide +kernel)
set_option maxRecDepth 20000 in
theorem gX1_thousandths_X2_valueOf : GoodIn wsX1_thousandths (va_wsS RX1 38 yX2_valueOf wsX2_valueOf) := goodIn_app (goodIn_of _ (by decide +kernel)) ggX1_thousandths_X2_valueOf
theorem dX1_thousandths_0 : decode cX1_thousandths 0 = .ok (.aload_n 0, 1) := by decide +kernel
theorem dX1_thousandths_1 : decode cX1_thousandths 1 = .ok (.getfield 15, 3) := by decide +kernel
theorem dX1_thousandths_4 : decode cX1_thousandths 4 = .ok (.getfield 19, 3) := by decide +kernel
theorem dX1_thousandths_7 : decode cX1_thousandths 7 = .ok (.aload_n 0, 1) := by decide +kernel
theorem dX1_thousandths_8 : decode cX1_thousandths 8 = .ok (.getfield 15, 3) := by decide +kernel
theorem dX1_thousandths_11 : decode cX1_thousandths 11 = .ok (.getfield 24, 3) := by decide +kernel
theorem dX1_thousandths_14 : decode cX1_thousandths 14 = .ok (.invokestatic 38, 3) := by decide +kernel
theorem dX1_thousandths_17 : decode cX1_thousandths 17 = .ok (.ldc2_w 44, 3) := by decide +kernel
theorem dX1_thousandths_20 : decode cX1_thousandths 20 = .ok (.dmul, 1) := by decide +kernel
theorem dX1_thousandths_21 : decode cX1_thousandths 21 = .ok (.d2l, 1) := by decide +kernel
theorem dX1_thousandths_22 : decode cX1_thousandths 22 = .ok (.lreturn, 1) := by decide +kernel
set_option maxRecDepth 20000 in
theorem ggX2_isNumber_X2_sizeOf : GoodIn wsX2_isNumber wsX2_sizeOf := goodIn_r _ [4, 5, 6, 3, 7, 8, 9] (by decide +kernel) (by decide +kernel)
set_option maxRecDepth 20000 in
theorem gX2_isNumber_X2_sizeOf : GoodIn wsX2_isNumber (va_wsS RX2 9 yX2_sizeOf wsX2_sizeOf) := goodIn_app (goodIn_of _ (by decide +kernel)) ggX2_isNumber_X2_sizeOf
set_option maxRecDepth 20000 in
theorem ggX2_isNumber_X2_endless : GoodIn wsX2_isNumber wsX2_endless := goodIn_r _ [12, 13, 14] (by decide +kernel) (by decide +kernel)
set_option maxRecDepth 20000 in
theorem gX2_isNumber_X2_endless : GoodIn wsX2_isNumber (va_wsS RX2 15 yX2_endless wsX2_endless) := goodIn_app (goodIn_of _ (by decide +kernel)) ggX2_isNumber_X2_endless
theorem dX2_isNumber_0 : decode cX2_isNumber 0 = .ok (.iload_n 0, 1) := by decide +kernel
theorem dX2_isNumber_1 : decode cX2_isNumber 1 = .ok (.lload_n 1, 1) := by decide +kernel
theorem dX2_isNumber_2 : decode cX2_isNumber 2 = .ok (.invokestatic 9, 3) := by decide +kernel
theorem dX2_isNumber_5 : decode cX2_isNumber 5 = .ok (.iload_n 0, 1) := by decide +kernel
theorem dX2_isNumber_6 : decode cX2_isNumber 6 = .ok (.invokestatic 15, 3) := by decide +kernel
theorem dX2_isNumber_9 : decode cX2_isNumber 9 = .ok (.lcmp, 1) := by decide +kernel
theorem dX2_isNumber_10 : decode cX2_isNumber 10 = .ok (.ifCond .gt 7, 3) := by decide +kernel
theorem dX2_isNumber_13 : decode cX2_isNumber 13 = .ok (.iconst 1, 1) := by decide +kernel
theorem dX2_isNumber_14 : decode cX2_isNumber 14 = .ok (.goto 4, 3) := by decide +kernel
theorem dX2_isNumber_17 : decode cX2_isNumber 17 = .ok (.iconst 0, 1) := by decide +kernel
theorem dX2_isNumber_18 : decode cX2_isNumber 18 = .ok (.ireturn, 1) := by decide +kernel
set_option maxRecDepth 20000 in
theorem ggX2_isEndless_X2_sizeOf : GoodIn wsX2_isEndless wsX2_sizeOf := goodIn_r _ [4, 5, 6, 3, 7, 8, 9] (by decide +kernel) (by decide +kernel)
set_option maxRecDepth 20000 in
theorem gX2_isEndless_X2_sizeOf : GoodIn wsX2_isEndless (va_wsS RX2 9 yX2_sizeOf wsX2_sizeOf) := goodIn_app (goodIn_of _ (by decide +kernel)) ggX2_isEndless_X2_sizeOf
set_option maxRecDepth 20000 in
theorem ggX2_isEndless_X2_endless : GoodIn wsX2_isEndless wsX2_endless := goodIn_r _ [12, 13, 14] (by decide +kernel) (by decide +kernel)
set_option maxRecDepth 20000 in
theorem gX2_isEndless_X2_endless : GoodIn wsX2_isEndless (va_wsS RX2 15 yX2_endless wsX2_endless) := goodIn_app (goodIn_of _ (by decide +kernel)) ggX2_isEndless_X2_endless
theorem dX2_isEndless_0 : decode cX2_isEndless 0 = .ok (.iload_n 0, 1) := by decide +kernel
theorem dX2_isEndless_1 : decode cX2_isEndless 1 = .ok (.lload_n 1, 1) := by decide +kernel
theorem dX2_isEndless_2 : decode cX2_isEndless 2 = .ok (.invokestatic 9, 3) := by decide +kernel
theorem dX2_isEndless_5 : decode cX2_isEndless 5 = .ok (.iload_n 0, 1) := by decide +kernel
theorem dX2_isEndless_6 : decode cX2_isEndless 6 = .ok (.invokestatic 15, 3) := by decide +kernel
theorem dX2_isEndless_9 : decode cX2_isEndless 9 = .ok (.lcmp, 1) := by decide +kernel
theorem dX2_isEndless_10 : decode cX2_isEndless 10 = .ok (.ifCond .ne 7, 3) := by decide +kernel
theorem dX2_isEndless_13 : decode cX2_isEndless 13 = .ok (.iconst 1, 1) := by decide +kernel
theorem dX2_isEndless_14 : decode cX2_isEndless 14 = .ok (.goto 4, 3) := by decide +kernel
theorem dX2_isEndless_17 : decode cX2_isEndless 17 = .ok (.iconst 0, 1) := by decide +kernel
theorem dX2_isEndless_18 : decode cX2_isEndless 18 = .ok (.ireturn, 1) := by decide +kernel
set_option maxRecDepth 20000 in
theorem ggX2_isZero_X2_sizeOf : GoodIn wsX2_isZero wsX2_sizeOf := goodIn_r _ [4, 5, 6, 3, 7, 8, 9] (by decide +kernel) (by decide +kernel)
set_option maxRecDepth 20000 in
theorem gX2_isZero_X2_sizeOf : GoodIn wsX2_isZero (va_wsS RX2 9 yX2_sizeOf wsX2_sizeOf) := goodIn_app (goodIn_of _ (by decide +kernel)) ggX2_isZero_X2_sizeOf
theorem dX2_isZero_0 : decode cX2_isZero 0 = .ok (.iload_n 0, 1) := by decide +kernel
theorem dX2_isZero_1 : decode cX2_isZero 1 = .ok (.lload_n 1, 1) := by decide +kernel
theorem dX2_isZero_2 : decode cX2_isZero 2 = .ok (.invokestatic 9, 3) := by decide +kernel
theorem dX2_isZero_5 : decode cX2_isZero 5 = .ok (.lconst 0, 1) := by decide +kernel
theorem dX2_isZero_6 : decode cX2_isZero 6 = .ok (.lcmp, 1) := by decide +kernel
theorem dX2_isZero_7 : decode cX2_isZero 7 = .ok (.ifCond .ne 7, 3) := by decide +kernel
theorem dX2_isZero_10 : decode cX2_isZero 10 = .ok (.iconst 1, 1) := by decide +kernel
theorem dX2_isZero_11 : decode cX2_isZero 11 = .ok (.goto 4, 3) := by decide +kernel
theorem dX2_isZero_14 : decode cX2_isZero 14 = .ok (.iconst 0, 1) := by decide +kernel
theorem dX2_isZero_15 : decode cX2_isZero 15 = .ok (.ireturn, 1) := by decide +kernel
set_option maxRecDepth 20000 in
theorem ggX2_isVoid_X2_isEndless : GoodIn wsX2_isVoid wsX2_isEndless := goodIn_r _ [4, 5, 6, 3, 7, 8, 9, 10, 11, 12, 13, 14, 15, 16, 17] (by decide +kernel) (by decide +kernel)
set_option maxRecDepth 20000 in
theorem gX2_isVoid_X2_isEndless : GoodIn wsX2_isVoid (va_wsS RX2 19 yX2_isEndless wsX2_isEndless) := goodIn_app (goodIn_of _ (by decide +kernel)) ggX2_isVoid_X2_isEndless
set_option maxRecDepth 20000 in
theorem ggX2_isVoid_X2_isZero : GoodIn wsX2_isVoid wsX2_isZero := goodIn_r _ [20, 5, 6, 3, 7, 8, 9, 10, 11, 12] (by decide +kernel) (by decide +kernel)
set_option maxRecDepth 20000 in
theorem gX2_isVoid_X2_isZero : GoodIn wsX2_isVoid (va_wsS RX2 23 yX2_isZero wsX2_isZero) := goodIn_app (goodIn_of _ (by decide +kernel)) ggX2_isVoid_X2_isZero
theorem dX2_isVoid_0 : decode cX2_isVoid 0 = .ok (.iload_n 0, 1) := by decide +kernel
theorem dX2_isVoid_1 : decode cX2_isVoid 1 = .ok (.lload_n 2, 1) := by decide +kernel
theorem dX2_isVoid_2 : decode cX2_isVoid 2 = .ok (.invokestatic 19, 3) := by decide +kernel
theorem dX2_isVoid_5 : decode cX2_isVoid 5 = .ok (.istore 6, 2) := by decide +kernel
theorem dX2_isVoid_7 : decode cX2_isVoid 7 = .ok (.iload_n 0, 1) := by decide +kernel
theorem dX2_isVoid_8 : decode cX2_isVoid 8 = .ok (.lload 4, 2) := by decide +kernel
theorem dX2_isVoid_10 : decode cX2_isVoid 10 = .ok (.invokestatic 19, 3) := by decide +kernel
theorem dX2_isVoid_13 : decode cX2_isVoid 13 = .ok (.istore 7, 2) := by decide +kernel
theorem dX2_isVoid_15 : decode cX2_isVoid 15 = .ok (.lload_n 2, 1) := by decide +kernel
theorem dX2_isVoid_16 : decode cX2_isVoid 16 = .ok (.lload 4, 2) := by decide +kernel
theorem dX2_isVoid_18 : decode cX2_isVoid 18 = .ok (.lxor, 1) := by decide +kernel
theorem dX2_isVoid_19 : decode cX2_isVoid 19 = .ok (.lconst 0, 1) := by decide +kernel
theorem dX2_isVoid_20 : decode cX2_isVoid 20 = .ok (.lcmp, 1) := by decide +kernel
theorem dX2_isVoid_21 : decode cX2_isVoid 21 = .ok (.ifCond .lt 7, 3) := by decide +kernel
theorem dX2_isVoid_24 : decode cX2_isVoid 24 = .ok (.iconst 1, 1) := by decide +kernel
theorem dX2_isVoid_25 : decode cX2_isVoid 25 = .ok (.goto 4, 3) := by decide +kernel
theorem dX2_isVoid_28 : decode cX2_isVoid 28 = .ok (.iconst 0, 1) := by decide +kernel
theorem dX2_isVoid_29 : decode cX2_isVoid 29 = .ok (.istore 8, 2) := by decide +kernel
theorem dX2_isVoid_31 : decode cX2_isVoid 31 = .ok (.iload_n 1, 1) := by decide +kernel
theorem dX2_isVoid_32 : decode cX2_isVoid 32 = .ok (.tableswitch 140 0 3 #[32, 53, 74, 107], 32) := by decide +kernel
theorem dX2_isVoid_64 : decode cX2_isVoid 64 = .ok (.iload 6, 2) := by decide +kernel
theorem dX2_isVoid_66 : decode cX2_isVoid 66 = .ok (.ifCond .eq 17, 3) := by decide +kernel
theorem dX2_isVoid_69 : decode cX2_isVoid 69 = .ok (.iload 7, 2) := by decide +kernel
theorem dX2_isVoid_71 : decode cX2_isVoid 71 = .ok (.ifCond .eq 12, 3) := by decide +kernel
theorem dX2_isVoid_74 : decode cX2_isVoid 74 = .ok (.iload 8, 2) := by decide +kernel
theorem dX2_isVoid_76 : decode cX2_isVoid 76 = .ok (.ifCond .ne 7, 3) := by decide +kernel
theorem dX2_isVoid_79 : decode cX2_isVoid 79 = .ok (.iconst 1, 1) := by decide +kernel
theorem dX2_isVoid_80 : decode cX2_isVoid 80 = .ok (.goto 4, 3) := by decide +kernel
theorem dX2_isVoid_83 : decode cX2_isVoid 83 = .ok (.iconst 0, 1) := by decide +kernel
theorem dX2_isVoid_84 : decode cX2_isVoid 84 = .ok (.ireturn, 1) := by decide +kernel
theorem dX2_isVoid_85 : decode cX2_isVoid 85 = .ok (.iload 6, 2) := by decide +kernel
theorem dX2_isVoid_87 : decode cX2_isVoid 87 = .ok (.ifCond .eq 17, 3) := by decide +kernel
theorem dX2_isVoid_90 : decode cX2_isVoid 90 = .ok (.iload 7, 2) := by decide +kernel
theorem dX2_isVoid_92 : decode cX2_isVoid 92 = .ok (.ifCond .eq 12, 3) := by decide +kernel
theorem dX2_isVoid_95 : decode cX2_isVoid 95 = .ok (.iload 8, 2) := by decide +kernel
theorem dX2_isVoid_97 : decode cX2_isVoid 97 = .ok (.ifCond .eq 7, 3) := by decide +kernel
theorem dX2_isVoid_100 : decode cX2_isVoid 100 = .ok (.iconst 1, 1) := by decide +kernel
theorem dX2_isVoid_101 : decode cX2_isVoid 101 = .ok (.goto 4, 3) := by decide +kernel
theorem dX2_isVoid_104 : decode cX2_isVoid 104 = .ok (.iconst 0, 1) := by decide +kernel
theorem dX2_isVoid_105 : decode cX2_isVoid 105 = .ok (.ireturn, 1) := by decide +kernel
theorem dX2_isVoid_106 : decode cX2_isVoid 106 = .ok (.iload_n 0, 1) := by decide +kernel
theorem dX2_isVoid_107 : decode cX2_isVoid 107 = .ok (.lload_n 2, 1) := by decide +kernel
theorem dX2_isVoid_108 : decode cX2_isVoid 108 = .ok (.invokestatic 23, 3) := by decide +kernel
theorem dX2_isVoid_111 : decode cX2_isVoid 111 = .ok (.ifCond .eq 8, 3) := by decide +kernel
theorem dX2_isVoid_114 : decode cX2_isVoid 114 = .ok (.iload 7, 2) := by decide +kernel
theorem dX2_isVoid_116 : decode cX2_isVoid 116 = .ok (.ifCond .ne 17, 3) := by decide +kernel
theorem dX2_isVoid_119 : decode cX2_isVoid 119 = .ok (.iload 6, 2) := by decide +kernel
theorem dX2_isVoid_121 : decode cX2_isVoid 121 = .ok (.ifCond .eq 16, 3) := by decide +kernel
theorem dX2_isVoid_124 : decode cX2_isVoid 124 = .ok (.iload_n 0, 1) := by decide +kernel
theorem dX2_isVoid_125 : decode cX2_isVoid 125 = .ok (.lload 4, 2) := by decide +kernel
theorem dX2_isVoid_127 : decode cX2_isVoid 127 = .ok (.invokestatic 23, 3) := by decide +kernel
theorem dX2_isVoid_130 : decode cX2_isVoid 130 = .ok (.ifCond .eq 7, 3) := by decide +kernel
theorem dX2_isVoid_133 : decode cX2_isVoid 133 = .ok (.iconst 1, 1) := by decide +kernel
theorem dX2_isVoid_134 : decode cX2_isVoid 134 = .ok (.goto 4, 3) := by decide +kernel
theorem dX2_isVoid_137 : decode cX2_isVoid 137 = .ok (.iconst 0, 1) := by decide +kernel
theorem dX2_isVoid_138 : decode cX2_isVoid 138 = .ok (.ireturn, 1) := by decide +kernel
theorem dX2_isVoid_139 : decode cX2_isVoid 139 = .ok (.iload_n 0, 1) := by decide +kernel
theorem dX2_isVoid_140 : decode cX2_isVoid 140 = .ok (.lload_n 2, 1) := by decide +kernel
theorem dX2_isVoid_141 : decode cX2_isVoid 141 = .ok (.invokestatic 23, 3) := by decide +kernel
theorem dX2_isVoid_144 : decode cX2_isVoid 144 = .ok (.ifCond .eq 12, 3) := by decide +kernel
theorem dX2_isVoid_147 : decode cX2_isVoid 147 = .ok (.iload_n 0, 1) := by decide +kernel
theorem dX2_isVoid_148 : decode cX2_isVoid 148 = .ok (.lload 4, 2) := by decide +kernel
theorem dX2_isVoid_150 : decode cX2_isVoid 150 = .ok (.invokestatic 23, 3) := by decide +kernel
theorem dX2_isVoid_153 : decode cX2_isVoid 153 = .ok (.ifCond .ne 13, 3) := by decide +kernel
theorem dX2_isVoid_156 : decode cX2_isVoid 156 = .ok (.iload 6, 2) := by decide +kernel
theorem dX2_isVoid_158 : decode cX2_isVoid 158 = .ok (.ifCond .eq 12, 3) := by decide +kernel
theorem dX2_isVoid_161 : decode cX2_isVoid 161 = .ok (.iload 7, 2) := by decide +kernel
theorem dX2_isVoid_163 : decode cX2_isVoid 163 = .ok (.ifCond .eq 7, 3) := by decide +kernel
theorem dX2_isVoid_166 : decode cX2_isVoid 166 = .ok (.iconst 1, 1) := by decide +kernel
theorem dX2_isVoid_167 : decode cX2_isVoid 167 = .ok (.goto 4, 3) := by decide +kernel
theorem dX2_isVoid_170 : decode cX2_isVoid 170 = .ok (.iconst 0, 1) := by decide +kernel
theorem dX2_isVoid_171 : decode cX2_isVoid 171 = .ok (.ireturn, 1) := by decide +kernel
theorem dX2_isVoid_172 : decode cX2_isVoid 172 = .ok (.iload_n 0, 1) := by decide +kernel
theorem dX2_isVoid_173 : decode cX2_isVoid 173 = .ok (.lload 4, 2) := by decide +kernel
theorem dX2_isVoid_175 : decode cX2_isVoid 175 = .ok (.invokestatic 23, 3) := by decide +kernel
theorem dX2_isVoid_178 : decode cX2_isVoid 178 = .ok (.ifCond .ne 8, 3) := by decide +kernel
theorem dX2_isVoid_181 : decode cX2_isVoid 181 = .ok (.iload 6, 2) := by decide +kernel
theorem dX2_isVoid_183 : decode cX2_isVoid 183 = .ok (.ifCond .eq 7, 3) := by decide +kernel
theorem dX2_isVoid_186 : decode cX2_isVoid 186 = .ok (.iconst 1, 1) := by decide +kernel
theorem dX2_isVoid_187 : decode cX2_isVoid 187 = .ok (.goto 4, 3) := by decide +kernel
theorem dX2_isVoid_190 : decode cX2_isVoid 190 = .ok (.iconst 0, 1) := by decide +kernel
theorem dX2_isVoid_191 : decode cX2_isVoid 191 = .ok (.ireturn, 1) := by decide +kernel
set_option maxRecDepth 20000 in
theorem ggX2_worked_X2_workedFloats : GoodIn wsX2_worked wsX2_workedFloats := goodIn_r _ [4] (by decide +kernel) (by decide +kernel)
set_option maxRecDepth 20000 in
theorem gX2_worked_X2_workedFloats : GoodIn wsX2_worked (va_wsS RX2 26 yX2_workedFloats wsX2_workedFloats) := goodIn_app (goodIn_of _ (by decide +kernel)) ggX2_worked_X2_workedFloats
theorem dX2_worked_0 : decode cX2_worked 0 = .ok (.iload_n 0, 1) := by decide +kernel
theorem dX2_worked_1 : decode cX2_worked 1 = .ok (.iconst 2, 1) := by decide +kernel
theorem dX2_worked_2 : decode cX2_worked 2 = .ok (.if_icmp .ne 14, 3) := by decide +kernel
theorem dX2_worked_5 : decode cX2_worked 5 = .ok (.iload_n 1, 1) := by decide +kernel
theorem dX2_worked_6 : decode cX2_worked 6 = .ok (.dload_n 2, 1) := by decide +kernel
theorem dX2_worked_7 : decode cX2_worked 7 = .ok (.d2f, 1) := by decide +kernel
theorem dX2_worked_8 : decode cX2_worked 8 = .ok (.dload 4, 2) := by decide +kernel
theorem dX2_worked_10 : decode cX2_worked 10 = .ok (.d2f, 1) := by decide +kernel
theorem dX2_worked_11 : decode cX2_worked 11 = .ok (.invokestatic 26, 3) := by decide +kernel
theorem dX2_worked_14 : decode cX2_worked 14 = .ok (.f2d, 1) := by decide +kernel
theorem dX2_worked_15 : decode cX2_worked 15 = .ok (.dreturn, 1) := by decide +kernel
theorem dX2_worked_16 : decode cX2_worked 16 = .ok (.iload_n 1, 1) := by decide +kernel
theorem dX2_worked_17 : decode cX2_worked 17 = .ok (.tableswitch 42 0 2 #[27, 32, 37], 27) := by decide +kernel
theorem dX2_worked_44 : decode cX2_worked 44 = .ok (.dload_n 2, 1) := by decide +kernel
theorem dX2_worked_45 : decode cX2_worked 45 = .ok (.dload 4, 2) := by decide +kernel
theorem dX2_worked_47 : decode cX2_worked 47 = .ok (.dadd, 1) := by decide +kernel
theorem dX2_worked_48 : decode cX2_worked 48 = .ok (.dreturn, 1) := by decide +kernel
theorem dX2_worked_49 : decode cX2_worked 49 = .ok (.dload_n 2, 1) := by decide +kernel
theorem dX2_worked_50 : decode cX2_worked 50 = .ok (.dload 4, 2) := by decide +kernel
theorem dX2_worked_52 : decode cX2_worked 52 = .ok (.dsub, 1) := by decide +kernel
theorem dX2_worked_53 : decode cX2_worked 53 = .ok (.dreturn, 1) := by decide +kernel
theorem dX2_worked_54 : decode cX2_worked 54 = .ok (.dload_n 2, 1) := by decide +kernel
theorem dX2_worked_55 : decode cX2_worked 55 = .ok (.dload 4, 2) := by decide +kernel
theorem dX2_worked_57 : decode cX2_worked 57 = .ok (.dmul, 1) := by decide +kernel
theorem dX2_worked_58 : decode cX2_worked 58 = .ok (.dreturn, 1) := by decide +kernel
theorem dX2_worked_59 : decode cX2_worked 59 = .ok (.dload_n 2, 1) := by decide +kernel
theorem dX2_worked_60 : decode cX2_worked 60 = .ok (.dload 4, 2) := by decide +kernel
theorem dX2_worked_62 : decode cX2_worked 62 = .ok (.ddiv, 1) := by decide +kernel
theorem dX2_worked_63 : decode cX2_worked 63 = .ok (.dreturn, 1) := by decide +kernel
theorem dX2_workedFloats_0 : decode cX2_workedFloats 0 = .ok (.iload_n 0, 1) := by decide +kernel
theorem dX2_workedFloats_1 : decode cX2_workedFloats 1 = .ok (.tableswitch 39 0 2 #[27, 31, 35], 27) := by decide +kernel
theorem dX2_workedFloats_28 : decode cX2_workedFloats 28 = .ok (.fload_n 1, 1) := by decide +kernel
theorem dX2_workedFloats_29 : decode cX2_workedFloats 29 = .ok (.fload_n 2, 1) := by decide +kernel
theorem dX2_workedFloats_30 : decode cX2_workedFloats 30 = .ok (.fadd, 1) := by decide +kernel
theorem dX2_workedFloats_31 : decode cX2_workedFloats 31 = .ok (.freturn, 1) := by decide +kernel
theorem dX2_workedFloats_32 : decode cX2_workedFloats 32 = .ok (.fload_n 1, 1) := by decide +kernel
theorem dX2_workedFloats_33 : decode cX2_workedFloats 33 = .ok (.fload_n 2, 1) := by decide +kernel
theorem dX2_workedFloats_34 : decode cX2_workedFloats 34 = .ok (.fsub, 1) := by decide +kernel
theorem dX2_workedFloats_35 : decode cX2_workedFloats 35 = .ok (.freturn, 1) := by decide +kernel
theorem dX2_workedFloats_36 : decode cX2_workedFloats 36 = .ok (.fload_n 1, 1) := by decide +kernel
theorem dX2_workedFloats_37 : decode cX2_workedFloats 37 = .ok (.fload_n 2, 1) := by decide +kernel
theorem dX2_workedFloats_38 : decode cX2_workedFloats 38 = .ok (.fmul, 1) := by decide +kernel
theorem dX2_workedFloats_39 : decode cX2_workedFloats 39 = .ok (.freturn, 1) := by decide +kernel
theorem dX2_workedFloats_40 : decode cX2_workedFloats 40 = .ok (.fload_n 1, 1) := by decide +kernel
theorem dX2_workedFloats_41 : decode cX2_workedFloats 41 = .ok (.fload_n 2, 1) := by decide +kernel
theorem dX2_workedFloats_42 : decode cX2_workedFloats 42 = .ok (.fdiv, 1) := by decide +kernel
theorem dX2_workedFloats_43 : decode cX2_workedFloats 43 = .ok (.freturn, 1) := by decide +kernel
set_option maxRecDepth 20000 in
theorem ggX2_valueOf_X2_sizeOf : GoodIn wsX2_valueOf wsX2_sizeOf := goodIn_r _ [4, 5, 6, 3, 7, 8, 9] (by decide +kernel) (by decide +kernel)
set_option maxRecDepth 20000 in
theorem gX2_valueOf_X2_sizeOf : GoodIn wsX2_valueOf (va_wsS RX2 9 yX2_sizeOf wsX2_sizeOf) := goodIn_app (goodIn_of _ (by decide +kernel)) ggX2_valueOf_X2_sizeOf
set_option maxRecDepth 20000 in
theorem ggX2_valueOf_X2_wholeOf : GoodIn wsX2_valueOf wsX2_wholeOf := goodIn_r _ [12, 13, 14, 3, 15] (by decide +kernel) (by decide +kernel)
set_option maxRecDepth 20000 in
theorem gX2_valueOf_X2_wholeOf : GoodIn wsX2_valueOf (va_wsS RX2 30 yX2_wholeOf wsX2_wholeOf) := goodIn_app (goodIn_of _ (by decide +kernel)) ggX2_valueOf_X2_wholeOf
set_option maxRecDepth 20000 in
theorem ggX2_valueOf_X2_fieldOf : GoodIn wsX2_valueOf wsX2_fieldOf := goodIn_r _ [18, 19, 20, 21, 22, 13, 14, 3, 15] (by decide +kernel) (by decide +kernel)
set_option maxRecDepth 20000 in
theorem gX2_valueOf_X2_fieldOf : GoodIn wsX2_valueOf (va_wsS RX2 33 yX2_fieldOf wsX2_fieldOf) := goodIn_app (goodIn_of _ (by decide +kernel)) ggX2_valueOf_X2_fieldOf
set_option maxRecDepth 20000 in
theorem ggX2_valueOf_X2_bias : GoodIn wsX2_valueOf wsX2_bias := goodIn_r _ [25] (by decide +kernel) (by decide +kernel)
set_option maxRecDepth 20000 in
theorem gX2_valueOf_X2_bias : GoodIn wsX2_valueOf (va_wsS RX2 37 yX2_bias wsX2_bias) := goodIn_app (goodIn_of _ (by decide +kernel)) ggX2_valueOf_X2_bias
set_option maxRecDepth 20000 in
theorem ggX2_valueOf_X2_fractionBits : GoodIn wsX2_valueOf wsX2_fractionBits := goodIn_r _ [15] (by decide +kernel) (by decide +kernel)
set_option maxRecDepth 20000 in
theorem gX2_valueOf_X2_fractionBits : GoodIn wsX2_valueOf (va_wsS RX2 41 yX2_fractionBits wsX2_fractionBits) := goodIn_app (goodIn_of _ (by decide +kernel)) ggX2_valueOf_X2_fractionBits
set_option maxRecDepth 20000 in
theorem ggX2_valueOf_X2_scaled : GoodIn wsX2_valueOf wsX2_scaled := goodIn_r _ [28, 29] (by decide +kernel) (by decide +kernel)
set_option maxRecDepth 20000 in
theorem gX2_valueOf_X2_scaled : GoodIn wsX2_valueOf (va_wsS RX2 44 yX2_scaled wsX2_scaled) := goodIn_app (goodIn_of _ (by decide +kernel)) ggX2_valueOf_X2_scaled
theorem dX2_valueOf_0 : decode cX2_valueOf 0 = .ok (.iload_n 0, 1) := by decide +kernel
theorem dX2_valueOf_1 : decode cX2_valueOf 1 = .ok (.lload_n 1, 1) := by decide +kernel
theorem dX2_valueOf_2 : decode cX2_valueOf 2 = .ok (.invokestatic 9, 3) := by decide +kernel
theorem dX2_valueOf_5 : decode cX2_valueOf 5 = .ok (.lstore_n 3, 1) := by decide +kernel
theorem dX2_valueOf_6 : decode cX2_valueOf 6 = .ok (.iload_n 0, 1) := by decide +kernel
theorem dX2_valueOf_7 : decode cX2_valueOf 7 = .ok (.lload_n 3, 1) := by decide +kernel
theorem dX2_valueOf_8 : decode cX2_valueOf 8 = .ok (.invokestatic 30, 3) := by decide +kernel
theorem dX2_valueOf_11 : decode cX2_valueOf 11 = .ok (.l2d, 1) := by decide +kernel
theorem dX2_valueOf_12 : decode cX2_valueOf 12 = .ok (.iload_n 0, 1) := by decide +kernel
theorem dX2_valueOf_13 : decode cX2_valueOf 13 = .ok (.lload_n 3, 1) := by decide +kernel
theorem dX2_valueOf_14 : decode cX2_valueOf 14 = .ok (.invokestatic 33, 3) := by decide +kernel
theorem dX2_valueOf_17 : decode cX2_valueOf 17 = .ok (.iload_n 0, 1) := by decide +kernel
theorem dX2_valueOf_18 : decode cX2_valueOf 18 = .ok (.invokestatic 37, 3) := by decide +kernel
theorem dX2_valueOf_21 : decode cX2_valueOf 21 = .ok (.isub, 1) := by decide +kernel
theorem dX2_valueOf_22 : decode cX2_valueOf 22 = .ok (.iload_n 0, 1) := by decide +kernel
theorem dX2_valueOf_23 : decode cX2_valueOf 23 = .ok (.invokestatic 41, 3) := by decide +kernel
theorem dX2_valueOf_26 : decode cX2_valueOf 26 = .ok (.isub, 1) := by decide +kernel
theorem dX2_valueOf_27 : decode cX2_valueOf 27 = .ok (.invokestatic 44, 3) := by decide +kernel
theorem dX2_valueOf_30 : decode cX2_valueOf 30 = .ok (.dstore 5, 2) := by decide +kernel
theorem dX2_valueOf_32 : decode cX2_valueOf 32 = .ok (.iload_n 0, 1) := by decide +kernel
theorem dX2_valueOf_33 : decode cX2_valueOf 33 = .ok (.iconst 2, 1) := by decide +kernel
theorem dX2_valueOf_34 : decode cX2_valueOf 34 = .ok (.if_icmp .ne 9, 3) := by decide +kernel
theorem dX2_valueOf_37 : decode cX2_valueOf 37 = .ok (.dload 5, 2) := by decide +kernel
theorem dX2_valueOf_39 : decode cX2_valueOf 39 = .ok (.d2f, 1) := by decide +kernel
theorem dX2_valueOf_40 : decode cX2_valueOf 40 = .ok (.f2d, 1) := by decide +kernel
theorem dX2_valueOf_41 : decode cX2_valueOf 41 = .ok (.dstore 5, 2) := by decide +kernel
theorem dX2_valueOf_43 : decode cX2_valueOf 43 = .ok (.lload_n 1, 1) := by decide +kernel
theorem dX2_valueOf_44 : decode cX2_valueOf 44 = .ok (.lconst 0, 1) := by decide +kernel
theorem dX2_valueOf_45 : decode cX2_valueOf 45 = .ok (.lcmp, 1) := by decide +kernel
theorem dX2_valueOf_46 : decode cX2_valueOf 46 = .ok (.ifCond .ge 9, 3) := by decide +kernel
theorem dX2_valueOf_49 : decode cX2_valueOf 49 = .ok (.dload 5, 2) := by decide +kernel
theorem dX2_valueOf_51 : decode cX2_valueOf 51 = .ok (.dneg, 1) := by decide +kernel
theorem dX2_valueOf_52 : decode cX2_valueOf 52 = .ok (.goto 5, 3) := by decide +kernel
theorem dX2_valueOf_55 : decode cX2_valueOf 55 = .ok (.dload 5, 2) := by decide +kernel
theorem dX2_valueOf_57 : decode cX2_valueOf 57 = .ok (.dreturn, 1) := by decide +kernel
set_option maxRecDepth 20000 in
theorem ggX2_bitsOf_X2_sizeOfValue : GoodIn wsX2_bitsOf wsX2_sizeOfValue := goodIn_r _ [4, 5, 6, 7, 8, 3, 9, 10, 11, 12, 13, 14, 15, 16, 17, 18, 19, 20, 21, 22, 23, 24, 25, 26, 27, 28, 29] (by decide +kernel) (by decide +kernel)
set_option maxRecDepth 20000 in
theorem gX2_bitsOf_X2_sizeOfValue : GoodIn wsX2_bitsOf (va_wsS RX2 48 yX2_sizeOfValue wsX2_sizeOfValue) := goodIn_app (goodIn_of _ (by decide +kernel)) ggX2_bitsOf_X2_sizeOfValue
set_option maxRecDepth 20000 in
theorem ggX2_bitsOf_X2_signed : GoodIn wsX2_bitsOf wsX2_signed := goodIn_r _ [32, 33, 34, 35, 3, 36, 37, 38] (by decide +kernel) (by decide +kernel)
set_option maxRecDepth 20000 in
theorem gX2_bitsOf_X2_signed : GoodIn wsX2_bitsOf (va_wsS RX2 52 yX2_signed wsX2_signed) := goodIn_app (goodIn_of _ (by decide +kernel)) ggX2_bitsOf_X2_signed
theorem dX2_bitsOf_0 : decode cX2_bitsOf 0 = .ok (.dload_n 1, 1) := by decide +kernel
theorem dX2_bitsOf_1 : decode cX2_bitsOf 1 = .ok (.dconst 0, 1) := by decide +kernel
theorem dX2_bitsOf_2 : decode cX2_bitsOf 2 = .ok (.dcmp .g, 1) := by decide +kernel
theorem dX2_bitsOf_3 : decode cX2_bitsOf 3 = .ok (.ifCond .lt 17, 3) := by decide +kernel
theorem dX2_bitsOf_6 : decode cX2_bitsOf 6 = .ok (.dload_n 1, 1) := by decide +kernel
theorem dX2_bitsOf_7 : decode cX2_bitsOf 7 = .ok (.dconst 0, 1) := by decide +kernel
theorem dX2_bitsOf_8 : decode cX2_bitsOf 8 = .ok (.dcmp .l, 1) := by decide +kernel
theorem dX2_bitsOf_9 : decode cX2_bitsOf 9 = .ok (.ifCond .ne 15, 3) := by decide +kernel
theorem dX2_bitsOf_12 : decode cX2_bitsOf 12 = .ok (.dconst 1, 1) := by decide +kernel
theorem dX2_bitsOf_13 : decode cX2_bitsOf 13 = .ok (.dload_n 1, 1) := by decide +kernel
theorem dX2_bitsOf_14 : decode cX2_bitsOf 14 = .ok (.ddiv, 1) := by decide +kernel
theorem dX2_bitsOf_15 : decode cX2_bitsOf 15 = .ok (.dconst 0, 1) := by decide +kernel
theorem dX2_bitsOf_16 : decode cX2_bitsOf 16 = .ok (.dcmp .g, 1) := by decide +kernel
theorem dX2_bitsOf_17 : decode cX2_bitsOf 17 = .ok (.ifCond .ge 7, 3) := by decide +kernel
theorem dX2_bitsOf_20 : decode cX2_bitsOf 20 = .ok (.iconst 1, 1) := by decide +kernel
theorem dX2_bitsOf_21 : decode cX2_bitsOf 21 = .ok (.goto 4, 3) := by decide +kernel
theorem dX2_bitsOf_24 : decode cX2_bitsOf 24 = .ok (.iconst 0, 1) := by decide +kernel
theorem dX2_bitsOf_25 : decode cX2_bitsOf 25 = .ok (.istore_n 3, 1) := by decide +kernel
theorem dX2_bitsOf_26 : decode cX2_bitsOf 26 = .ok (.iload_n 0, 1) := by decide +kernel
theorem dX2_bitsOf_27 : decode cX2_bitsOf 27 = .ok (.iload_n 0, 1) := by decide +kernel
theorem dX2_bitsOf_28 : decode cX2_bitsOf 28 = .ok (.iload_n 3, 1) := by decide +kernel
theorem dX2_bitsOf_29 : decode cX2_bitsOf 29 = .ok (.ifCond .eq 8, 3) := by decide +kernel
theorem dX2_bitsOf_32 : decode cX2_bitsOf 32 = .ok (.dload_n 1, 1) := by decide +kernel
theorem dX2_bitsOf_33 : decode cX2_bitsOf 33 = .ok (.dneg, 1) := by decide +kernel
theorem dX2_bitsOf_34 : decode cX2_bitsOf 34 = .ok (.goto 4, 3) := by decide +kernel
theorem dX2_bitsOf_37 : decode cX2_bitsOf 37 = .ok (.dload_n 1, 1) := by decide +kernel
theorem dX2_bitsOf_38 : decode cX2_bitsOf 38 = .ok (.invokestatic 48, 3) := by decide +kernel
theorem dX2_bitsOf_41 : decode cX2_bitsOf 41 = .ok (.iload_n 3, 1) := by decide +kernel
theorem dX2_bitsOf_42 : decode cX2_bitsOf 42 = .ok (.invokestatic 52, 3) := by decide +kernel
theorem dX2_bitsOf_45 : decode cX2_bitsOf 45 = .ok (.lreturn, 1) := by decide +kernel
set_option maxRecDepth 20000 in
theorem ggX2_restOf_X2_sizeOf : GoodIn wsX2_restOf wsX2_sizeOf := goodIn_r _ [4, 5, 6, 3, 7, 8, 9] (by decide +kernel) (by decide +kernel)
set_option maxRecDepth 20000 in
theorem gX2_restOf_X2_sizeOf : GoodIn wsX2_restOf (va_wsS RX2 9 yX2_sizeOf wsX2_sizeOf) := goodIn_app (goodIn_of _ (by decide +kernel)) ggX2_restOf_X2_sizeOf
set_option maxRecDepth 20000 in
theorem ggX2_restOf_X2_restOfSizes : GoodIn wsX2_restOf wsX2_restOfSizes := goodIn_r _ [12, 13, 14, 15, 16, 17, 18, 3, 19, 20, 21, 22, 23, 24, 25, 26, 27, 28, 29, 30, 31, 32, 33, 34, 35, 36, 37, 38, 39, 40, 41, 42, 43] (by decide +kernel) (by decide +kernel)
set_option maxRecDepth 20000 in
theorem gX2_restOf_X2_restOfSizes : GoodIn wsX2_restOf (va_wsS RX2 56 yX2_restOfSizes wsX2_restOfSizes) := goodIn_app (goodIn_of _ (by decide +kernel)) ggX2_restOf_X2_restOfSizes
set_option maxRecDepth 20000 in
theorem ggX2_restOf_X2_signed : GoodIn wsX2_restOf wsX2_signed := goodIn_r _ [46, 47, 5, 6, 3, 7, 8, 9] (by decide +kernel) (by decide +kernel)
set_option maxRecDepth 20000 in
theorem gX2_restOf_X2_signed : GoodIn wsX2_restOf (va_wsS RX2 52 yX2_signed wsX2_signed) := goodIn_app (goodIn_of _ (by decide +kernel)) ggX2_restOf_X2_signed
theorem dX2_restOf_0 : decode cX2_restOf 0 = .ok (.iload_n 0, 1) := by decide +kernel
theorem dX2_restOf_1 : decode cX2_restOf 1 = .ok (.iload_n 0, 1) := by decide +kernel
theorem dX2_restOf_2 : decode cX2_restOf 2 = .ok (.iload_n 0, 1) := by decide +kernel
theorem dX2_restOf_3 : decode cX2_restOf 3 = .ok (.lload_n 1, 1) := by decide +kernel
theorem dX2_restOf_4 : decode cX2_restOf 4 = .ok (.invokestatic 9, 3) := by decide +kernel
theorem dX2_restOf_7 : decode cX2_restOf 7 = .ok (.iload_n 0, 1) := by decide +kernel
theorem dX2_restOf_8 : decode cX2_restOf 8 = .ok (.lload_n 3, 1) := by decide +kernel
theorem dX2_restOf_9 : decode cX2_restOf 9 = .ok (.invokestatic 9, 3) := by decide +kernel
theorem dX2_restOf_12 : decode cX2_restOf 12 = .ok (.invokestatic 56, 3) := by decide +kernel
theorem dX2_restOf_15 : decode cX2_restOf 15 = .ok (.lload_n 1, 1) := by decide +kernel
theorem dX2_restOf_16 : decode cX2_restOf 16 = .ok (.lconst 0, 1) := by decide +kernel
theorem dX2_restOf_17 : decode cX2_restOf 17 = .ok (.lcmp, 1) := by decide +kernel
theorem dX2_restOf_18 : decode cX2_restOf 18 = .ok (.ifCond .ge 7, 3) := by decide +kernel
theorem dX2_restOf_21 : decode cX2_restOf 21 = .ok (.iconst 1, 1) := by decide +kernel
theorem dX2_restOf_22 : decode cX2_restOf 22 = .ok (.goto 4, 3) := by decide +kernel
theorem dX2_restOf_25 : decode cX2_restOf 25 = .ok (.iconst 0, 1) := by decide +kernel
theorem dX2_restOf_26 : decode cX2_restOf 26 = .ok (.invokestatic 52, 3) := by decide +kernel
theorem dX2_restOf_29 : decode cX2_restOf 29 = .ok (.lreturn, 1) := by decide +kernel
set_option maxRecDepth 20000 in
theorem ggX2_restOfSizes_X2_wholeOf : GoodIn wsX2_restOfSizes wsX2_wholeOf := goodIn_r _ [8, 9, 10, 7, 11] (by decide +kernel) (by decide +kernel)
set_option maxRecDepth 20000 in
theorem gX2_restOfSizes_X2_wholeOf : GoodIn wsX2_restOfSizes (va_wsS RX2 30 yX2_wholeOf wsX2_wholeOf) := goodIn_app (goodIn_of _ (by decide +kernel)) ggX2_restOfSizes_X2_wholeOf
set_option maxRecDepth 20000 in
theorem ggX2_restOfSizes_X2_fieldOf : GoodIn wsX2_restOfSizes wsX2_fieldOf := goodIn_r _ [14, 15, 16, 3, 17, 9, 10, 7, 11] (by decide +kernel) (by decide +kernel)
set_option maxRecDepth 20000 in
theorem gX2_restOfSizes_X2_fieldOf : GoodIn wsX2_restOfSizes (va_wsS RX2 33 yX2_fieldOf wsX2_fieldOf) := goodIn_app (goodIn_of _ (by decide +kernel)) ggX2_restOfSizes_X2_fieldOf
set_option maxRecDepth 20000 in
theorem ggX2_restOfSizes_X2_sizeOfWhole : GoodIn wsX2_restOfSizes wsX2_sizeOfWhole := goodIn_r _ [20, 1, 2, 3, 4, 9, 10, 7, 11, 21, 22, 23, 24, 25, 26, 27, 28, 29, 30, 31, 32] (by decide +kernel) (by decide +kernel)
set_option maxRecDepth 20000 in
theorem gX2_restOfSizes_X2_sizeOfWhole : GoodIn wsX2_restOfSizes (va_wsS RX2 66 yX2_sizeOfWhole wsX2_sizeOfWhole) := goodIn_app (goodIn_of _ (by decide +kernel)) ggX2_restOfSizes_X2_sizeOfWhole
theorem dX2_restOfSizes_0 : decode cX2_restOfSizes 0 = .ok (.lload_n 1, 1) := by decide +kernel
theorem dX2_restOfSizes_1 : decode cX2_restOfSizes 1 = .ok (.lload_n 3, 1) := by decide +kernel
theorem dX2_restOfSizes_2 : decode cX2_restOfSizes 2 = .ok (.lcmp, 1) := by decide +kernel
theorem dX2_restOfSizes_3 : decode cX2_restOfSizes 3 = .ok (.ifCond .lt 9, 3) := by decide +kernel
theorem dX2_restOfSizes_6 : decode cX2_restOfSizes 6 = .ok (.lload_n 3, 1) := by decide +kernel
theorem dX2_restOfSizes_7 : decode cX2_restOfSizes 7 = .ok (.lconst 0, 1) := by decide +kernel
theorem dX2_restOfSizes_8 : decode cX2_restOfSizes 8 = .ok (.lcmp, 1) := by decide +kernel
theorem dX2_restOfSizes_9 : decode cX2_restOfSizes 9 = .ok (.ifCond .ne 5, 3) := by decide +kernel
theorem dX2_restOfSizes_12 : decode cX2_restOfSizes 12 = .ok (.lload_n 1, 1) := by decide +kernel
theorem dX2_restOfSizes_13 : decode cX2_restOfSizes 13 = .ok (.lreturn, 1) := by decide +kernel
theorem dX2_restOfSizes_14 : decode cX2_restOfSizes 14 = .ok (.iload_n 0, 1) := by decide +kernel
theorem dX2_restOfSizes_15 : decode cX2_restOfSizes 15 = .ok (.lload_n 3, 1) := by decide +kernel
theorem dX2_restOfSizes_16 : decode cX2_restOfSizes 16 = .ok (.invokestatic 30, 3) := by decide +kernel
theorem dX2_restOfSizes_19 : decode cX2_restOfSizes 19 = .ok (.lstore 5, 2) := by decide +kernel
theorem dX2_restOfSizes_21 : decode cX2_restOfSizes 21 = .ok (.lload 5, 2) := by decide +kernel
theorem dX2_restOfSizes_23 : decode cX2_restOfSizes 23 = .ok (.lconst 0, 1) := by decide +kernel
theorem dX2_restOfSizes_24 : decode cX2_restOfSizes 24 = .ok (.lcmp, 1) := by decide +kernel
theorem dX2_restOfSizes_25 : decode cX2_restOfSizes 25 = .ok (.ifCond .ne 5, 3) := by decide +kernel
theorem dX2_restOfSizes_28 : decode cX2_restOfSizes 28 = .ok (.lload_n 1, 1) := by decide +kernel
theorem dX2_restOfSizes_29 : decode cX2_restOfSizes 29 = .ok (.lreturn, 1) := by decide +kernel
theorem dX2_restOfSizes_30 : decode cX2_restOfSizes 30 = .ok (.iload_n 0, 1) := by decide +kernel
theorem dX2_restOfSizes_31 : decode cX2_restOfSizes 31 = .ok (.lload_n 1, 1) := by decide +kernel
theorem dX2_restOfSizes_32 : decode cX2_restOfSizes 32 = .ok (.invokestatic 30, 3) := by decide +kernel
theorem dX2_restOfSizes_35 : decode cX2_restOfSizes 35 = .ok (.lload 5, 2) := by decide +kernel
theorem dX2_restOfSizes_37 : decode cX2_restOfSizes 37 = .ok (.lrem, 1) := by decide +kernel
theorem dX2_restOfSizes_38 : decode cX2_restOfSizes 38 = .ok (.lstore 7, 2) := by decide +kernel
theorem dX2_restOfSizes_40 : decode cX2_restOfSizes 40 = .ok (.iload_n 0, 1) := by decide +kernel
theorem dX2_restOfSizes_41 : decode cX2_restOfSizes 41 = .ok (.lload_n 1, 1) := by decide +kernel
theorem dX2_restOfSizes_42 : decode cX2_restOfSizes 42 = .ok (.invokestatic 33, 3) := by decide +kernel
theorem dX2_restOfSizes_45 : decode cX2_restOfSizes 45 = .ok (.iload_n 0, 1) := by decide +kernel
theorem dX2_restOfSizes_46 : decode cX2_restOfSizes 46 = .ok (.lload_n 3, 1) := by decide +kernel
theorem dX2_restOfSizes_47 : decode cX2_restOfSizes 47 = .ok (.invokestatic 33, 3) := by decide +kernel
theorem dX2_restOfSizes_50 : decode cX2_restOfSizes 50 = .ok (.isub, 1) := by decide +kernel
theorem dX2_restOfSizes_51 : decode cX2_restOfSizes 51 = .ok (.istore 9, 2) := by decide +kernel
theorem dX2_restOfSizes_53 : decode cX2_restOfSizes 53 = .ok (.iload 9, 2) := by decide +kernel
theorem dX2_restOfSizes_55 : decode cX2_restOfSizes 55 = .ok (.ifCond .le 31, 3) := by decide +kernel
theorem dX2_restOfSizes_58 : decode cX2_restOfSizes 58 = .ok (.lload 7, 2) := by decide +kernel
theorem dX2_restOfSizes_60 : decode cX2_restOfSizes 60 = .ok (.lconst 0, 1) := by decide +kernel
theorem dX2_restOfSizes_61 : decode cX2_restOfSizes 61 = .ok (.lcmp, 1) := by decide +kernel
theorem dX2_restOfSizes_62 : decode cX2_restOfSizes 62 = .ok (.ifCond .eq 24, 3) := by decide +kernel
theorem dX2_restOfSizes_65 : decode cX2_restOfSizes 65 = .ok (.lload 7, 2) := by decide +kernel
theorem dX2_restOfSizes_67 : decode cX2_restOfSizes 67 = .ok (.iload 9, 2) := by decide +kernel
theorem dX2_restOfSizes_69 : decode cX2_restOfSizes 69 = .ok (.bipush 10, 2) := by decide +kernel
theorem dX2_restOfSizes_71 : decode cX2_restOfSizes 71 = .ok (.invokestatic 60, 3) := by decide +kernel
theorem dX2_restOfSizes_74 : decode cX2_restOfSizes 74 = .ok (.lshl, 1) := by decide +kernel
theorem dX2_restOfSizes_75 : decode cX2_restOfSizes 75 = .ok (.lload 5, 2) := by decide +kernel
theorem dX2_restOfSizes_77 : decode cX2_restOfSizes 77 = .ok (.lrem, 1) := by decide +kernel
theorem dX2_restOfSizes_78 : decode cX2_restOfSizes 78 = .ok (.lstore 7, 2) := by decide +kernel
theorem dX2_restOfSizes_80 : decode cX2_restOfSizes 80 = .ok (.iinc 9 (-10), 3) := by decide +kernel
theorem dX2_restOfSizes_83 : decode cX2_restOfSizes 83 = .ok (.goto (-30), 3) := by decide +kernel
theorem dX2_restOfSizes_86 : decode cX2_restOfSizes 86 = .ok (.lload 7, 2) := by decide +kernel
theorem dX2_restOfSizes_88 : decode cX2_restOfSizes 88 = .ok (.lconst 0, 1) := by decide +kernel
theorem dX2_restOfSizes_89 : decode cX2_restOfSizes 89 = .ok (.lcmp, 1) := by decide +kernel
theorem dX2_restOfSizes_90 : decode cX2_restOfSizes 90 = .ok (.ifCond .ne 7, 3) := by decide +kernel
theorem dX2_restOfSizes_93 : decode cX2_restOfSizes 93 = .ok (.lconst 0, 1) := by decide +kernel
theorem dX2_restOfSizes_94 : decode cX2_restOfSizes 94 = .ok (.goto 14, 3) := by decide +kernel
theorem dX2_restOfSizes_97 : decode cX2_restOfSizes 97 = .ok (.iload_n 0, 1) := by decide +kernel
theorem dX2_restOfSizes_98 : decode cX2_restOfSizes 98 = .ok (.lload 7, 2) := by decide +kernel
theorem dX2_restOfSizes_100 : decode cX2_restOfSizes 100 = .ok (.iload_n 0, 1) := by decide +kernel
theorem dX2_restOfSizes_101 : decode cX2_restOfSizes 101 = .ok (.lload_n 3, 1) := by decide +kernel
theorem dX2_restOfSizes_102 : decode cX2_restOfSizes 102 = .ok (.invokestatic 33, 3) := by decide +kernel
theorem dX2_restOfSizes_105 : decode cX2_restOfSizes 105 = .ok (.invokestatic 66, 3) := by decide +kernel
theorem dX2_restOfSizes_108 : decode cX2_restOfSizes 108 = .ok (.lreturn, 1) := by decide +kernel
set_option maxRecDepth 20000 in
theorem ggX2_sizeOfWhole_X2_fractionBits : GoodIn wsX2_sizeOfWhole wsX2_fractionBits := goodIn_r _ [8] (by decide +kernel) (by decide +kernel)
set_option maxRecDepth 20000 in
theorem gX2_sizeOfWhole_X2_fractionBits : GoodIn wsX2_sizeOfWhole (va_wsS RX2 41 yX2_fractionBits wsX2_fractionBits) := goodIn_app (goodIn_of _ (by decide +kernel)) ggX2_sizeOfWhole_X2_fractionBits
set_option maxRecDepth 20000 in
theorem ggX2_sizeOfWhole_J13_numberOfLeadingZeros_95d88 : GoodIn wsX2_sizeOfWhole wsJ13_numberOfLeadingZeros_95d88 := goodIn_r _ [12, 13, 14, 15, 16, 17] (by decide +kernel) (by decide +kernel)
set_option maxRecDepth 20000 in
theorem gX2_sizeOfWhole_J13_numberOfLeadingZeros_95d88 : GoodIn wsX2_sizeOfWhole (va_wsS RX2 70 yJ13_numberOfLeadingZeros_95d88 wsJ13_numberOfLeadingZeros_95d88) := goodIn_app (goodIn_of _ (by decide +kernel)) ggX2_sizeOfWhole_J13_numberOfLeadingZeros_95d88
set_option maxRecDepth 20000 in
theorem ggX2_sizeOfWhole_X2_sizeOfParts : GoodIn wsX2_sizeOfWhole wsX2_sizeOfParts := goodIn_r _ [20] (by decide +kernel) (by decide +kernel)
set_option maxRecDepth 20000 in
theorem gX2_sizeOfWhole_X2_sizeOfParts : GoodIn wsX2_sizeOfWhole (va_wsS RX2 76 yX2_sizeOfParts wsX2_sizeOfParts) := goodIn_app (goodIn_of _ (by decide +kernel)) ggX2_sizeOfWhole_X2_sizeOfParts
theorem dX2_sizeOfWhole_0 : decode cX2_sizeOfWhole 0 = .ok (.iload_n 0, 1) := by decide +kernel
theorem dX2_sizeOfWhole_1 : decode cX2_sizeOfWhole 1 = .ok (.invokestatic 41, 3) := by decide +kernel
theorem dX2_sizeOfWhole_4 : decode cX2_sizeOfWhole 4 = .ok (.istore 4, 2) := by decide +kernel
theorem dX2_sizeOfWhole_6 : decode cX2_sizeOfWhole 6 = .ok (.lload_n 1, 1) := by decide +kernel
theorem dX2_sizeOfWhole_7 : decode cX2_sizeOfWhole 7 = .ok (.invokestatic 70, 3) := by decide +kernel
theorem dX2_sizeOfWhole_10 : decode cX2_sizeOfWhole 10 = .ok (.bipush 63, 2) := by decide +kernel
theorem dX2_sizeOfWhole_12 : decode cX2_sizeOfWhole 12 = .ok (.isub, 1) := by decide +kernel
theorem dX2_sizeOfWhole_13 : decode cX2_sizeOfWhole 13 = .ok (.iload 4, 2) := by decide +kernel
theorem dX2_sizeOfWhole_15 : decode cX2_sizeOfWhole 15 = .ok (.iadd, 1) := by decide +kernel
theorem dX2_sizeOfWhole_16 : decode cX2_sizeOfWhole 16 = .ok (.iload_n 3, 1) := by decide +kernel
theorem dX2_sizeOfWhole_17 : decode cX2_sizeOfWhole 17 = .ok (.iconst 1, 1) := by decide +kernel
theorem dX2_sizeOfWhole_18 : decode cX2_sizeOfWhole 18 = .ok (.isub, 1) := by decide +kernel
theorem dX2_sizeOfWhole_19 : decode cX2_sizeOfWhole 19 = .ok (.invokestatic 60, 3) := by decide +kernel
theorem dX2_sizeOfWhole_22 : decode cX2_sizeOfWhole 22 = .ok (.istore 5, 2) := by decide +kernel
theorem dX2_sizeOfWhole_24 : decode cX2_sizeOfWhole 24 = .ok (.iload 4, 2) := by decide +kernel
theorem dX2_sizeOfWhole_26 : decode cX2_sizeOfWhole 26 = .ok (.iload_n 3, 1) := by decide +kernel
theorem dX2_sizeOfWhole_27 : decode cX2_sizeOfWhole 27 = .ok (.iload 5, 2) := by decide +kernel
theorem dX2_sizeOfWhole_29 : decode cX2_sizeOfWhole 29 = .ok (.isub, 1) := by decide +kernel
theorem dX2_sizeOfWhole_30 : decode cX2_sizeOfWhole 30 = .ok (.lload_n 1, 1) := by decide +kernel
theorem dX2_sizeOfWhole_31 : decode cX2_sizeOfWhole 31 = .ok (.iload 5, 2) := by decide +kernel
theorem dX2_sizeOfWhole_33 : decode cX2_sizeOfWhole 33 = .ok (.lshl, 1) := by decide +kernel
theorem dX2_sizeOfWhole_34 : decode cX2_sizeOfWhole 34 = .ok (.invokestatic 76, 3) := by decide +kernel
theorem dX2_sizeOfWhole_37 : decode cX2_sizeOfWhole 37 = .ok (.lreturn, 1) := by decide +kernel
set_option maxRecDepth 20000 in
theorem ggX2_sizeOfValue_X2_endless : GoodIn wsX2_sizeOfValue wsX2_endless := goodIn_r _ [6, 7, 8] (by decide +kernel) (by decide +kernel)
set_option maxRecDepth 20000 in
theorem gX2_sizeOfValue_X2_endless : GoodIn wsX2_sizeOfValue (va_wsS RX2 15 yX2_endless wsX2_endless) := goodIn_app (goodIn_of _ (by decide +kernel)) ggX2_sizeOfValue_X2_endless
set_option maxRecDepth 20000 in
theorem ggX2_sizeOfValue_J13_numberOfLeadingZeros_95d88 : GoodIn wsX2_sizeOfValue wsJ13_numberOfLeadingZeros_95d88 := goodIn_r _ [12, 13, 14, 15, 16, 17] (by decide +kernel) (by decide +kernel)
set_option maxRecDepth 20000 in
theorem gX2_sizeOfValue_J13_numberOfLeadingZeros_95d88 : GoodIn wsX2_sizeOfValue (va_wsS RX2 70 yJ13_numberOfLeadingZeros_95d88 wsJ13_numberOfLeadingZeros_95d88) := goodIn_app (goodIn_of _ (by decide +kernel)) ggX2_sizeOfValue_J13_numberOfLeadingZeros_95d88
set_option maxRecDepth 20000 in
theorem ggX2_sizeOfValue_X2_fractionBits : GoodIn wsX2_sizeOfValue wsX2_fractionBits := goodIn_r _ [20] (by decide +kernel) (by decide +kernel)
set_option maxRecDepth 20000 in
theorem gX2_sizeOfValue_X2_fractionBits : GoodIn wsX2_sizeOfValue (va_wsS RX2 41 yX2_fractionBits wsX2_fractionBits) := goodIn_app (goodIn_of _ (by decide +kernel)) ggX2_sizeOfValue_X2_fractionBits
set_option maxRecDepth 20000 in
theorem ggX2_sizeOfValue_X2_bias : GoodIn wsX2_sizeOfValue wsX2_bias := goodIn_r _ [23] (by decide +kernel) (by decide +kernel)
set_option maxRecDepth 20000 in
theorem gX2_sizeOfValue_X2_bias : GoodIn wsX2_sizeOfValue (va_wsS RX2 37 yX2_bias wsX2_bias) := goodIn_app (goodIn_of _ (by decide +kernel)) ggX2_sizeOfValue_X2_bias
set_option maxRecDepth 20000 in
theorem ggX2_sizeOfValue_X2_sizeOfParts : GoodIn wsX2_sizeOfValue wsX2_sizeOfParts := goodIn_r _ [26] (by decide +kernel) (by decide +kernel)
set_option maxRecDepth 20000 in
theorem gX2_sizeOfValue_X2_sizeOfParts : GoodIn wsX2_sizeOfValue (va_wsS RX2 76 yX2_sizeOfParts wsX2_sizeOfParts) := goodIn_app (goodIn_of _ (by decide +kernel)) ggX2_sizeOfValue_X2_sizeOfParts
theorem dX2_sizeOfValue_0 : decode cX2_sizeOfValue 0 = .ok (.dload_n 1, 1) := by decide +kernel
theorem dX2_sizeOfValue_1 : decode cX2_sizeOfValue 1 = .ok (.dconst 0, 1) := by decide +kernel
theorem dX2_sizeOfValue_2 : decode cX2_sizeOfValue 2 = .ok (.dcmp .l, 1) := by decide +kernel
theorem dX2_sizeOfValue_3 : decode cX2_sizeOfValue 3 = .ok (.ifCond .ne 5, 3) := by decide +kernel
theorem dX2_sizeOfValue_6 : decode cX2_sizeOfValue 6 = .ok (.lconst 0, 1) := by decide +kernel
theorem dX2_sizeOfValue_7 : decode cX2_sizeOfValue 7 = .ok (.lreturn, 1) := by decide +kernel
theorem dX2_sizeOfValue_8 : decode cX2_sizeOfValue 8 = .ok (.dload_n 1, 1) := by decide +kernel
theorem dX2_sizeOfValue_9 : decode cX2_sizeOfValue 9 = .ok (.ldc2_w 80, 3) := by decide +kernel
theorem dX2_sizeOfValue_12 : decode cX2_sizeOfValue 12 = .ok (.dcmp .l, 1) := by decide +kernel
theorem dX2_sizeOfValue_13 : decode cX2_sizeOfValue 13 = .ok (.ifCond .le 8, 3) := by decide +kernel
theorem dX2_sizeOfValue_16 : decode cX2_sizeOfValue 16 = .ok (.iload_n 0, 1) := by decide +kernel
theorem dX2_sizeOfValue_17 : decode cX2_sizeOfValue 17 = .ok (.invokestatic 15, 3) := by decide +kernel
theorem dX2_sizeOfValue_20 : decode cX2_sizeOfValue 20 = .ok (.lreturn, 1) := by decide +kernel
theorem dX2_sizeOfValue_21 : decode cX2_sizeOfValue 21 = .ok (.dload_n 1, 1) := by decide +kernel
theorem dX2_sizeOfValue_22 : decode cX2_sizeOfValue 22 = .ok (.dstore_n 3, 1) := by decide +kernel
theorem dX2_sizeOfValue_23 : decode cX2_sizeOfValue 23 = .ok (.iconst 0, 1) := by decide +kernel
theorem dX2_sizeOfValue_24 : decode cX2_sizeOfValue 24 = .ok (.istore 5, 2) := by decide +kernel
theorem dX2_sizeOfValue_26 : decode cX2_sizeOfValue 26 = .ok (.iload 5, 2) := by decide +kernel
theorem dX2_sizeOfValue_28 : decode cX2_sizeOfValue 28 = .ok (.sipush 1024, 3) := by decide +kernel
theorem dX2_sizeOfValue_31 : decode cX2_sizeOfValue 31 = .ok (.if_icmp .ge 23, 3) := by decide +kernel
theorem dX2_sizeOfValue_34 : decode cX2_sizeOfValue 34 = .ok (.dload_n 3, 1) := by decide +kernel
theorem dX2_sizeOfValue_35 : decode cX2_sizeOfValue 35 = .ok (.ldc2_w 82, 3) := by decide +kernel
theorem dX2_sizeOfValue_38 : decode cX2_sizeOfValue 38 = .ok (.dcmp .l, 1) := by decide +kernel
theorem dX2_sizeOfValue_39 : decode cX2_sizeOfValue 39 = .ok (.ifCond .lt 15, 3) := by decide +kernel
theorem dX2_sizeOfValue_42 : decode cX2_sizeOfValue 42 = .ok (.dload_n 3, 1) := by decide +kernel
theorem dX2_sizeOfValue_43 : decode cX2_sizeOfValue 43 = .ok (.ldc2_w 82, 3) := by decide +kernel
theorem dX2_sizeOfValue_46 : decode cX2_sizeOfValue 46 = .ok (.ddiv, 1) := by decide +kernel
theorem dX2_sizeOfValue_47 : decode cX2_sizeOfValue 47 = .ok (.dstore_n 3, 1) := by decide +kernel
theorem dX2_sizeOfValue_48 : decode cX2_sizeOfValue 48 = .ok (.iinc 5 32, 3) := by decide +kernel
theorem dX2_sizeOfValue_51 : decode cX2_sizeOfValue 51 = .ok (.goto (-25), 3) := by decide +kernel
theorem dX2_sizeOfValue_54 : decode cX2_sizeOfValue 54 = .ok (.iload 5, 2) := by decide +kernel
theorem dX2_sizeOfValue_56 : decode cX2_sizeOfValue 56 = .ok (.sipush (-1088), 3) := by decide +kernel
theorem dX2_sizeOfValue_59 : decode cX2_sizeOfValue 59 = .ok (.if_icmp .le 21, 3) := by decide +kernel
theorem dX2_sizeOfValue_62 : decode cX2_sizeOfValue 62 = .ok (.dload_n 3, 1) := by decide +kernel
theorem dX2_sizeOfValue_63 : decode cX2_sizeOfValue 63 = .ok (.dconst 1, 1) := by decide +kernel
theorem dX2_sizeOfValue_64 : decode cX2_sizeOfValue 64 = .ok (.dcmp .g, 1) := by decide +kernel
theorem dX2_sizeOfValue_65 : decode cX2_sizeOfValue 65 = .ok (.ifCond .ge 15, 3) := by decide +kernel
theorem dX2_sizeOfValue_68 : decode cX2_sizeOfValue 68 = .ok (.dload_n 3, 1) := by decide +kernel
theorem dX2_sizeOfValue_69 : decode cX2_sizeOfValue 69 = .ok (.ldc2_w 82, 3) := by decide +kernel
theorem dX2_sizeOfValue_72 : decode cX2_sizeOfValue 72 = .ok (.dmul, 1) := by decide +kernel
theorem dX2_sizeOfValue_73 : decode cX2_sizeOfValue 73 = .ok (.dstore_n 3, 1) := by decide +kernel
theorem dX2_sizeOfValue_74 : decode cX2_sizeOfValue 74 = .ok (.iinc 5 (-32), 3) := by decide +kernel
theorem dX2_sizeOfValue_77 : decode cX2_sizeOfValue 77 = .ok (.goto (-23), 3) := by decide +kernel
theorem dX2_sizeOfValue_80 : decode cX2_sizeOfValue 80 = .ok (.bipush 63, 2) := by decide +kernel
theorem dX2_sizeOfValue_82 : decode cX2_sizeOfValue 82 = .ok (.dload_n 3, 1) := by decide +kernel
theorem dX2_sizeOfValue_83 : decode cX2_sizeOfValue 83 = .ok (.d2l, 1) := by decide +kernel
theorem dX2_sizeOfValue_84 : decode cX2_sizeOfValue 84 = .ok (.invokestatic 70, 3) := by decide +kernel
theorem dX2_sizeOfValue_87 : decode cX2_sizeOfValue 87 = .ok (.isub, 1) := by decide +kernel
theorem dX2_sizeOfValue_88 : decode cX2_sizeOfValue 88 = .ok (.istore 6, 2) := by decide +kernel
theorem dX2_sizeOfValue_90 : decode cX2_sizeOfValue 90 = .ok (.iload_n 0, 1) := by decide +kernel
theorem dX2_sizeOfValue_91 : decode cX2_sizeOfValue 91 = .ok (.invokestatic 41, 3) := by decide +kernel
theorem dX2_sizeOfValue_94 : decode cX2_sizeOfValue 94 = .ok (.istore 7, 2) := by decide +kernel
theorem dX2_sizeOfValue_96 : decode cX2_sizeOfValue 96 = .ok (.dload_n 3, 1) := by decide +kernel
theorem dX2_sizeOfValue_97 : decode cX2_sizeOfValue 97 = .ok (.lconst 1, 1) := by decide +kernel
theorem dX2_sizeOfValue_98 : decode cX2_sizeOfValue 98 = .ok (.bipush 52, 2) := by decide +kernel
theorem dX2_sizeOfValue_100 : decode cX2_sizeOfValue 100 = .ok (.iload 6, 2) := by decide +kernel
theorem dX2_sizeOfValue_102 : decode cX2_sizeOfValue 102 = .ok (.isub, 1) := by decide +kernel
theorem dX2_sizeOfValue_103 : decode cX2_sizeOfValue 103 = .ok (.lshl, 1) := by decide +kernel
theorem dX2_sizeOfValue_104 : decode cX2_sizeOfValue 104 = .ok (.l2d, 1) := by decide +kernel
theorem dX2_sizeOfValue_105 : decode cX2_sizeOfValue 105 = .ok (.dmul, 1) := by decide +kernel
theorem dX2_sizeOfValue_106 : decode cX2_sizeOfValue 106 = .ok (.d2l, 1) := by decide +kernel
theorem dX2_sizeOfValue_107 : decode cX2_sizeOfValue 107 = .ok (.bipush 52, 2) := by decide +kernel
theorem dX2_sizeOfValue_109 : decode cX2_sizeOfValue 109 = .ok (.iload 7, 2) := by decide +kernel
theorem dX2_sizeOfValue_111 : decode cX2_sizeOfValue 111 = .ok (.isub, 1) := by decide +kernel
theorem dX2_sizeOfValue_112 : decode cX2_sizeOfValue 112 = .ok (.lushr, 1) := by decide +kernel
theorem dX2_sizeOfValue_113 : decode cX2_sizeOfValue 113 = .ok (.lstore 8, 2) := by decide +kernel
theorem dX2_sizeOfValue_115 : decode cX2_sizeOfValue 115 = .ok (.iload 5, 2) := by decide +kernel
theorem dX2_sizeOfValue_117 : decode cX2_sizeOfValue 117 = .ok (.iload 6, 2) := by decide +kernel
theorem dX2_sizeOfValue_119 : decode cX2_sizeOfValue 119 = .ok (.iadd, 1) := by decide +kernel
theorem dX2_sizeOfValue_120 : decode cX2_sizeOfValue 120 = .ok (.iload_n 0, 1) := by decide +kernel
theorem dX2_sizeOfValue_121 : decode cX2_sizeOfValue 121 = .ok (.invokestatic 37, 3) := by decide +kernel
theorem dX2_sizeOfValue_124 : decode cX2_sizeOfValue 124 = .ok (.iadd, 1) := by decide +kernel
theorem dX2_sizeOfValue_125 : decode cX2_sizeOfValue 125 = .ok (.istore 10, 2) := by decide +kernel
theorem dX2_sizeOfValue_127 : decode cX2_sizeOfValue 127 = .ok (.iload 10, 2) := by decide +kernel
theorem dX2_sizeOfValue_129 : decode cX2_sizeOfValue 129 = .ok (.iconst 1, 1) := by decide +kernel
theorem dX2_sizeOfValue_130 : decode cX2_sizeOfValue 130 = .ok (.if_icmp .lt 15, 3) := by decide +kernel
theorem dX2_sizeOfValue_133 : decode cX2_sizeOfValue 133 = .ok (.iload 7, 2) := by decide +kernel
theorem dX2_sizeOfValue_135 : decode cX2_sizeOfValue 135 = .ok (.iload 10, 2) := by decide +kernel
theorem dX2_sizeOfValue_137 : decode cX2_sizeOfValue 137 = .ok (.lload 8, 2) := by decide +kernel
theorem dX2_sizeOfValue_139 : decode cX2_sizeOfValue 139 = .ok (.invokestatic 76, 3) := by decide +kernel
theorem dX2_sizeOfValue_142 : decode cX2_sizeOfValue 142 = .ok (.goto 10, 3) := by decide +kernel
theorem dX2_sizeOfValue_145 : decode cX2_sizeOfValue 145 = .ok (.lload 8, 2) := by decide +kernel
theorem dX2_sizeOfValue_147 : decode cX2_sizeOfValue 147 = .ok (.iconst 1, 1) := by decide +kernel
theorem dX2_sizeOfValue_148 : decode cX2_sizeOfValue 148 = .ok (.iload 10, 2) := by decide +kernel
theorem dX2_sizeOfValue_150 : decode cX2_sizeOfValue 150 = .ok (.isub, 1) := by decide +kernel
theorem dX2_sizeOfValue_151 : decode cX2_sizeOfValue 151 = .ok (.lushr, 1) := by decide +kernel
theorem dX2_sizeOfValue_152 : decode cX2_sizeOfValue 152 = .ok (.lreturn, 1) := by decide +kernel
theorem dX2_sizeOfParts_0 : decode cX2_sizeOfParts 0 = .ok (.iload_n 1, 1) := by decide +kernel
theorem dX2_sizeOfParts_1 : decode cX2_sizeOfParts 1 = .ok (.iconst 1, 1) := by decide +kernel
theorem dX2_sizeOfParts_2 : decode cX2_sizeOfParts 2 = .ok (.isub, 1) := by decide +kernel
theorem dX2_sizeOfParts_3 : decode cX2_sizeOfParts 3 = .ok (.i2l, 1) := by decide +kernel
theorem dX2_sizeOfParts_4 : decode cX2_sizeOfParts 4 = .ok (.iload_n 0, 1) := by decide +kernel
theorem dX2_sizeOfParts_5 : decode cX2_sizeOfParts 5 = .ok (.lshl, 1) := by decide +kernel
theorem dX2_sizeOfParts_6 : decode cX2_sizeOfParts 6 = .ok (.lload_n 2, 1) := by decide +kernel
theorem dX2_sizeOfParts_7 : decode cX2_sizeOfParts 7 = .ok (.ladd, 1) := by decide +kernel
theorem dX2_sizeOfParts_8 : decode cX2_sizeOfParts 8 = .ok (.lreturn, 1) := by decide +kernel
theorem dX2_scaled_0 : decode cX2_scaled 0 = .ok (.dload_n 0, 1) := by decide +kernel
theorem dX2_scaled_1 : decode cX2_scaled 1 = .ok (.dstore_n 3, 1) := by decide +kernel
theorem dX2_scaled_2 : decode cX2_scaled 2 = .ok (.iload_n 2, 1) := by decide +kernel
theorem dX2_scaled_3 : decode cX2_scaled 3 = .ok (.istore 5, 2) := by decide +kernel
theorem dX2_scaled_5 : decode cX2_scaled 5 = .ok (.iload 5, 2) := by decide +kernel
theorem dX2_scaled_7 : decode cX2_scaled 7 = .ok (.bipush 32, 2) := by decide +kernel
theorem dX2_scaled_9 : decode cX2_scaled 9 = .ok (.if_icmp .lt 15, 3) := by decide +kernel
theorem dX2_scaled_12 : decode cX2_scaled 12 = .ok (.dload_n 3, 1) := by decide +kernel
theorem dX2_scaled_13 : decode cX2_scaled 13 = .ok (.ldc2_w 82, 3) := by decide +kernel
theorem dX2_scaled_16 : decode cX2_scaled 16 = .ok (.dmul, 1) := by decide +kernel
theorem dX2_scaled_17 : decode cX2_scaled 17 = .ok (.dstore_n 3, 1) := by decide +kernel
theorem dX2_scaled_18 : decode cX2_scaled 18 = .ok (.iinc 5 (-32), 3) := by decide +kernel
theorem dX2_scaled_21 : decode cX2_scaled 21 = .ok (.goto (-16), 3) := by decide +kernel
theorem dX2_scaled_24 : decode cX2_scaled 24 = .ok (.iload 5, 2) := by decide +kernel
theorem dX2_scaled_26 : decode cX2_scaled 26 = .ok (.bipush (-32), 2) := by decide +kernel
theorem dX2_scaled_28 : decode cX2_scaled 28 = .ok (.if_icmp .gt 15, 3) := by decide +kernel
theorem dX2_scaled_31 : decode cX2_scaled 31 = .ok (.dload_n 3, 1) := by decide +kernel
theorem dX2_scaled_32 : decode cX2_scaled 32 = .ok (.ldc2_w 82, 3) := by decide +kernel
theorem dX2_scaled_35 : decode cX2_scaled 35 = .ok (.ddiv, 1) := by decide +kernel
theorem dX2_scaled_36 : decode cX2_scaled 36 = .ok (.dstore_n 3, 1) := by decide +kernel
theorem dX2_scaled_37 : decode cX2_scaled 37 = .ok (.iinc 5 32, 3) := by decide +kernel
theorem dX2_scaled_40 : decode cX2_scaled 40 = .ok (.goto (-16), 3) := by decide +kernel
theorem dX2_scaled_43 : decode cX2_scaled 43 = .ok (.iload 5, 2) := by decide +kernel
theorem dX2_scaled_45 : decode cX2_scaled 45 = .ok (.ifCond .lt 13, 3) := by decide +kernel
theorem dX2_scaled_48 : decode cX2_scaled 48 = .ok (.dload_n 3, 1) := by decide +kernel
theorem dX2_scaled_49 : decode cX2_scaled 49 = .ok (.lconst 1, 1) := by decide +kernel
theorem dX2_scaled_50 : decode cX2_scaled 50 = .ok (.iload 5, 2) := by decide +kernel
theorem dX2_scaled_52 : decode cX2_scaled 52 = .ok (.lshl, 1) := by decide +kernel
theorem dX2_scaled_53 : decode cX2_scaled 53 = .ok (.l2d, 1) := by decide +kernel
theorem dX2_scaled_54 : decode cX2_scaled 54 = .ok (.dmul, 1) := by decide +kernel
theorem dX2_scaled_55 : decode cX2_scaled 55 = .ok (.goto 11, 3) := by decide +kernel
theorem dX2_scaled_58 : decode cX2_scaled 58 = .ok (.dload_n 3, 1) := by decide +kernel
theorem dX2_scaled_59 : decode cX2_scaled 59 = .ok (.lconst 1, 1) := by decide +kernel
theorem dX2_scaled_60 : decode cX2_scaled 60 = .ok (.iload 5, 2) := by decide +kernel
theorem dX2_scaled_62 : decode cX2_scaled 62 = .ok (.ineg, 1) := by decide +kernel
theorem dX2_scaled_63 : decode cX2_scaled 63 = .ok (.lshl, 1) := by decide +kernel
theorem dX2_scaled_64 : decode cX2_scaled 64 = .ok (.l2d, 1) := by decide +kernel
theorem dX2_scaled_65 : decode cX2_scaled 65 = .ok (.ddiv, 1) := by decide +kernel
theorem dX2_scaled_66 : decode cX2_scaled 66 = .ok (.dreturn, 1) := by decide +kernel
set_option maxRecDepth 20000 in
theorem ggX2_fieldOf_X2_fractionBits : GoodIn wsX2_fieldOf wsX2_fractionBits := goodIn_r _ [8] (by decide +kernel) (by decide +kernel)
set_option maxRecDepth 20000 in
theorem gX2_fieldOf_X2_fractionBits : GoodIn wsX2_fieldOf (va_wsS RX2 41 yX2_fractionBits wsX2_fractionBits) := goodIn_app (goodIn_of _ (by decide +kernel)) ggX2_fieldOf_X2_fractionBits
theorem dX2_fieldOf_0 : decode cX2_fieldOf 0 = .ok (.iconst 1, 1) := by decide +kernel
theorem dX2_fieldOf_1 : decode cX2_fieldOf 1 = .ok (.lload_n 1, 1) := by decide +kernel
theorem dX2_fieldOf_2 : decode cX2_fieldOf 2 = .ok (.iload_n 0, 1) := by decide +kernel
theorem dX2_fieldOf_3 : decode cX2_fieldOf 3 = .ok (.invokestatic 41, 3) := by decide +kernel
theorem dX2_fieldOf_6 : decode cX2_fieldOf 6 = .ok (.lushr, 1) := by decide +kernel
theorem dX2_fieldOf_7 : decode cX2_fieldOf 7 = .ok (.l2i, 1) := by decide +kernel
theorem dX2_fieldOf_8 : decode cX2_fieldOf 8 = .ok (.invokestatic 84, 3) := by decide +kernel
theorem dX2_fieldOf_11 : decode cX2_fieldOf 11 = .ok (.ireturn, 1) := by decide +kernel
set_option maxRecDepth 20000 in
theorem ggX2_wholeOf_X2_fractionBits : GoodIn wsX2_wholeOf wsX2_fractionBits := goodIn_r _ [4] (by decide +kernel) (by decide +kernel)
set_option maxRecDepth 20000 in
theorem gX2_wholeOf_X2_fractionBits : GoodIn wsX2_wholeOf (va_wsS RX2 41 yX2_fractionBits wsX2_fractionBits) := goodIn_app (goodIn_of _ (by decide +kernel)) ggX2_wholeOf_X2_fractionBits
theorem dX2_wholeOf_0 : decode cX2_wholeOf 0 = .ok (.lconst 1, 1) := by decide +kernel
theorem dX2_wholeOf_1 : decode cX2_wholeOf 1 = .ok (.iload_n 0, 1) := by decide +kernel
theorem dX2_wholeOf_2 : decode cX2_wholeOf 2 = .ok (.invokestatic 41, 3) := by decide +kernel
theorem dX2_wholeOf_5 : decode cX2_wholeOf 5 = .ok (.lshl, 1) := by decide +kernel
theorem dX2_wholeOf_6 : decode cX2_wholeOf 6 = .ok (.lstore_n 3, 1) := by decide +kernel
theorem dX2_wholeOf_7 : decode cX2_wholeOf 7 = .ok (.lload_n 1, 1) := by decide +kernel
theorem dX2_wholeOf_8 : decode cX2_wholeOf 8 = .ok (.lload_n 3, 1) := by decide +kernel
theorem dX2_wholeOf_9 : decode cX2_wholeOf 9 = .ok (.lcmp, 1) := by decide +kernel
theorem dX2_wholeOf_10 : decode cX2_wholeOf 10 = .ok (.ifCond .ge 7, 3) := by decide +kernel
theorem dX2_wholeOf_13 : decode cX2_wholeOf 13 = .ok (.lload_n 1, 1) := by decide +kernel
theorem dX2_wholeOf_14 : decode cX2_wholeOf 14 = .ok (.goto 10, 3) := by decide +kernel
theorem dX2_wholeOf_17 : decode cX2_wholeOf 17 = .ok (.lload_n 1, 1) := by decide +kernel
theorem dX2_wholeOf_18 : decode cX2_wholeOf 18 = .ok (.lload_n 3, 1) := by decide +kernel
theorem dX2_wholeOf_19 : decode cX2_wholeOf 19 = .ok (.lconst 1, 1) := by decide +kernel
theorem dX2_wholeOf_20 : decode cX2_wholeOf 20 = .ok (.lsub, 1) := by decide +kernel
theorem dX2_wholeOf_21 : decode cX2_wholeOf 21 = .ok (.land, 1) := by decide +kernel
theorem dX2_wholeOf_22 : decode cX2_wholeOf 22 = .ok (.lload_n 3, 1) := by decide +kernel
theorem dX2_wholeOf_23 : decode cX2_wholeOf 23 = .ok (.lor, 1) := by decide +kernel
theorem dX2_wholeOf_24 : decode cX2_wholeOf 24 = .ok (.lreturn, 1) := by decide +kernel
set_option maxRecDepth 20000 in
theorem ggX2_signed_X2_sizeMask : GoodIn wsX2_signed wsX2_sizeMask := goodIn_r _ [5, 6, 7] (by decide +kernel) (by decide +kernel)
set_option maxRecDepth 20000 in
theorem gX2_signed_X2_sizeMask : GoodIn wsX2_signed (va_wsS RX2 87 yX2_sizeMask wsX2_sizeMask) := goodIn_app (goodIn_of _ (by decide +kernel)) ggX2_signed_X2_sizeMask
theorem dX2_signed_0 : decode cX2_signed 0 = .ok (.iload_n 3, 1) := by decide +kernel
theorem dX2_signed_1 : decode cX2_signed 1 = .ok (.ifCond .eq 16, 3) := by decide +kernel
theorem dX2_signed_4 : decode cX2_signed 4 = .ok (.lload_n 1, 1) := by decide +kernel
theorem dX2_signed_5 : decode cX2_signed 5 = .ok (.iload_n 0, 1) := by decide +kernel
theorem dX2_signed_6 : decode cX2_signed 6 = .ok (.invokestatic 87, 3) := by decide +kernel
theorem dX2_signed_9 : decode cX2_signed 9 = .ok (.ldc2_w 90, 3) := by decide +kernel
theorem dX2_signed_12 : decode cX2_signed 12 = .ok (.lxor, 1) := by decide +kernel
theorem dX2_signed_13 : decode cX2_signed 13 = .ok (.lor, 1) := by decide +kernel
theorem dX2_signed_14 : decode cX2_signed 14 = .ok (.goto 4, 3) := by decide +kernel
theorem dX2_signed_17 : decode cX2_signed 17 = .ok (.lload_n 1, 1) := by decide +kernel
theorem dX2_signed_18 : decode cX2_signed 18 = .ok (.lreturn, 1) := by decide +kernel
set_option maxRecDepth 20000 in
theorem ggX2_sizeOf_X2_sizeMask : GoodIn wsX2_sizeOf wsX2_sizeMask := goodIn_r _ [4, 5, 6] (by decide +kernel) (by decide +kernel)
set_option maxRecDepth 20000 in
theorem gX2_sizeOf_X2_sizeMask : GoodIn wsX2_sizeOf (va_wsS RX2 87 yX2_sizeMask wsX2_sizeMask) := goodIn_app (goodIn_of _ (by decide +kernel)) ggX2_sizeOf_X2_sizeMask
theorem dX2_sizeOf_0 : decode cX2_sizeOf 0 = .ok (.lload_n 1, 1) := by decide +kernel
theorem dX2_sizeOf_1 : decode cX2_sizeOf 1 = .ok (.iload_n 0, 1) := by decide +kernel
theorem dX2_sizeOf_2 : decode cX2_sizeOf 2 = .ok (.invokestatic 87, 3) := by decide +kernel
theorem dX2_sizeOf_5 : decode cX2_sizeOf 5 = .ok (.land, 1) := by decide +kernel
theorem dX2_sizeOf_6 : decode cX2_sizeOf 6 = .ok (.lreturn, 1) := by decide +kernel
theorem dX2_sizeMask_0 : decode cX2_sizeMask 0 = .ok (.iload_n 0, 1) := by decide +kernel
theorem dX2_sizeMask_1 : decode cX2_sizeMask 1 = .ok (.iconst 2, 1) := by decide +kernel
theorem dX2_sizeMask_2 : decode cX2_sizeMask 2 = .ok (.if_icmp .ne 9, 3) := by decide +kernel
theorem dX2_sizeMask_5 : decode cX2_sizeMask 5 = .ok (.ldc2_w 92, 3) := by decide +kernel
theorem dX2_sizeMask_8 : decode cX2_sizeMask 8 = .ok (.goto 6, 3) := by decide +kernel
theorem dX2_sizeMask_11 : decode cX2_sizeMask 11 = .ok (.ldc2_w 94, 3) := by decide +kernel
theorem dX2_sizeMask_14 : decode cX2_sizeMask 14 = .ok (.lreturn, 1) := by decide +kernel
theorem dX2_endless_0 : decode cX2_endless 0 = .ok (.iload_n 0, 1) := by decide +kernel
theorem dX2_endless_1 : decode cX2_endless 1 = .ok (.iconst 2, 1) := by decide +kernel
theorem dX2_endless_2 : decode cX2_endless 2 = .ok (.if_icmp .ne 9, 3) := by decide +kernel
theorem dX2_endless_5 : decode cX2_endless 5 = .ok (.ldc2_w 96, 3) := by decide +kernel
theorem dX2_endless_8 : decode cX2_endless 8 = .ok (.goto 6, 3) := by decide +kernel
theorem dX2_endless_11 : decode cX2_endless 11 = .ok (.ldc2_w 98, 3) := by decide +kernel
theorem dX2_endless_14 : decode cX2_endless 14 = .ok (.lreturn, 1) := by decide +kernel
theorem dX2_fractionBits_0 : decode cX2_fractionBits 0 = .ok (.iload_n 0, 1) := by decide +kernel
theorem dX2_fractionBits_1 : decode cX2_fractionBits 1 = .ok (.iconst 2, 1) := by decide +kernel
theorem dX2_fractionBits_2 : decode cX2_fractionBits 2 = .ok (.if_icmp .ne 8, 3) := by decide +kernel
theorem dX2_fractionBits_5 : decode cX2_fractionBits 5 = .ok (.bipush 23, 2) := by decide +kernel
theorem dX2_fractionBits_7 : decode cX2_fractionBits 7 = .ok (.goto 5, 3) := by decide +kernel
theorem dX2_fractionBits_10 : decode cX2_fractionBits 10 = .ok (.bipush 52, 2) := by decide +kernel
theorem dX2_fractionBits_12 : decode cX2_fractionBits 12 = .ok (.ireturn, 1) := by decide +kernel
theorem dX2_bias_0 : decode cX2_bias 0 = .ok (.iload_n 0, 1) := by decide +kernel
theorem dX2_bias_1 : decode cX2_bias 1 = .ok (.iconst 2, 1) := by decide +kernel
theorem dX2_bias_2 : decode cX2_bias 2 = .ok (.if_icmp .ne 8, 3) := by decide +kernel
theorem dX2_bias_5 : decode cX2_bias 5 = .ok (.bipush 127, 2) := by decide +kernel
theorem dX2_bias_7 : decode cX2_bias 7 = .ok (.goto 6, 3) := by decide +kernel
theorem dX2_bias_10 : decode cX2_bias 10 = .ok (.sipush 1023, 3) := by decide +kernel
theorem dX2_bias_13 : decode cX2_bias 13 = .ok (.ireturn, 1) := by decide +kernel
theorem dX3_init_0 : decode cX3_init 0 = .ok (.aload_n 0, 1) := by decide +kernel
theorem dX3_init_1 : decode cX3_init 1 = .ok (.invokespecial 1, 3) := by decide +kernel
theorem dX3_init_4 : decode cX3_init 4 = .ok (.aload_n 0, 1) := by decide +kernel
theorem dX3_init_5 : decode cX3_init 5 = .ok (.lconst 0, 1) := by decide +kernel
theorem dX3_init_6 : decode cX3_init 6 = .ok (.putfield 7, 3) := by decide +kernel
theorem dX3_init_9 : decode cX3_init 9 = .ok (.aload_n 0, 1) := by decide +kernel
theorem dX3_init_10 : decode cX3_init 10 = .ok (.iload_n 1, 1) := by decide +kernel
theorem dX3_init_11 : decode cX3_init 11 = .ok (.putfield 13, 3) := by decide +kernel
theorem dX3_init_14 : decode cX3_init 14 = .ok (.return_, 1) := by decide +kernel
theorem dX4_init_0 : decode cX4_init 0 = .ok (.aload_n 0, 1) := by decide +kernel
theorem dX4_init_1 : decode cX4_init 1 = .ok (.invokespecial 3, 3) := by decide +kernel
theorem dX4_init_4 : decode cX4_init 4 = .ok (.aload_n 0, 1) := by decide +kernel
theorem dX4_init_5 : decode cX4_init 5 = .ok (.iload_n 1, 1) := by decide +kernel
theorem dX4_init_6 : decode cX4_init 6 = .ok (.putfield 9, 3) := by decide +kernel
theorem dX4_init_9 : decode cX4_init 9 = .ok (.aload_n 0, 1) := by decide +kernel
theorem dX4_init_10 : decode cX4_init 10 = .ok (.iload_n 2, 1) := by decide +kernel
theorem dX4_init_11 : decode cX4_init 11 = .ok (.anewarray 15, 3) := by decide +kernel
theorem dX4_init_14 : decode cX4_init 14 = .ok (.putfield 17, 3) := by decide +kernel
theorem dX4_init_17 : decode cX4_init 17 = .ok (.return_, 1) := by decide +kernel
theorem dX4_hasPlace_0 : decode cX4_hasPlace 0 = .ok (.iload_n 1, 1) := by decide +kernel
theorem dX4_hasPlace_1 : decode cX4_hasPlace 1 = .ok (.ifCond .lt 16, 3) := by decide +kernel
theorem dX4_hasPlace_4 : decode cX4_hasPlace 4 = .ok (.iload_n 1, 1) := by decide +kernel
theorem dX4_hasPlace_5 : decode cX4_hasPlace 5 = .ok (.aload_n 0, 1) := by decide +kernel
theorem dX4_hasPlace_6 : decode cX4_hasPlace 6 = .ok (.getfield 17, 3) := by decide +kernel
theorem dX4_hasPlace_9 : decode cX4_hasPlace 9 = .ok (.arraylength, 1) := by decide +kernel
theorem dX4_hasPlace_10 : decode cX4_hasPlace 10 = .ok (.if_icmp .ge 7, 3) := by decide +kernel
theorem dX4_hasPlace_13 : decode cX4_hasPlace 13 = .ok (.iconst 1, 1) := by decide +kernel
theorem dX4_hasPlace_14 : decode cX4_hasPlace 14 = .ok (.goto 4, 3) := by decide +kernel
theorem dX4_hasPlace_17 : decode cX4_hasPlace 17 = .ok (.iconst 0, 1) := by decide +kernel
theorem dX4_hasPlace_18 : decode cX4_hasPlace 18 = .ok (.ireturn, 1) := by decide +kernel
theorem dX4_isWideFor_0 : decode cX4_isWideFor 0 = .ok (.aload_n 0, 1) := by decide +kernel
theorem dX4_isWideFor_1 : decode cX4_isWideFor 1 = .ok (.getfield 9, 3) := by decide +kernel
theorem dX4_isWideFor_4 : decode cX4_isWideFor 4 = .ok (.iconst 3, 1) := by decide +kernel
theorem dX4_isWideFor_5 : decode cX4_isWideFor 5 = .ok (.if_icmp .eq 16, 3) := by decide +kernel
theorem dX4_isWideFor_8 : decode cX4_isWideFor 8 = .ok (.iload_n 1, 1) := by decide +kernel
theorem dX4_isWideFor_9 : decode cX4_isWideFor 9 = .ok (.iconst 3, 1) := by decide +kernel
theorem dX4_isWideFor_10 : decode cX4_isWideFor 10 = .ok (.if_icmp .eq 15, 3) := by decide +kernel
theorem dX4_isWideFor_13 : decode cX4_isWideFor 13 = .ok (.iload_n 1, 1) := by decide +kernel
theorem dX4_isWideFor_14 : decode cX4_isWideFor 14 = .ok (.aload_n 0, 1) := by decide +kernel
theorem dX4_isWideFor_15 : decode cX4_isWideFor 15 = .ok (.getfield 9, 3) := by decide +kernel
theorem dX4_isWideFor_18 : decode cX4_isWideFor 18 = .ok (.if_icmp .lt 7, 3) := by decide +kernel
theorem dX4_isWideFor_21 : decode cX4_isWideFor 21 = .ok (.iconst 1, 1) := by decide +kernel
theorem dX4_isWideFor_22 : decode cX4_isWideFor 22 = .ok (.goto 4, 3) := by decide +kernel
theorem dX4_isWideFor_25 : decode cX4_isWideFor 25 = .ok (.iconst 0, 1) := by decide +kernel
theorem dX4_isWideFor_26 : decode cX4_isWideFor 26 = .ok (.ireturn, 1) := by decide +kernel
theorem dX5_init_0 : decode cX5_init 0 = .ok (.aload_n 0, 1) := by decide +kernel
theorem dX5_init_1 : decode cX5_init 1 = .ok (.invokespecial 1, 3) := by decide +kernel
theorem dX5_init_4 : decode cX5_init 4 = .ok (.aload_n 0, 1) := by decide +kernel
theorem dX5_init_5 : decode cX5_init 5 = .ok (.iload_n 1, 1) := by decide +kernel
theorem dX5_init_6 : decode cX5_init 6 = .ok (.putfield 7, 3) := by decide +kernel
theorem dX5_init_9 : decode cX5_init 9 = .ok (.aload_n 0, 1) := by decide +kernel
theorem dX5_init_10 : decode cX5_init 10 = .ok (.iload_n 2, 1) := by decide +kernel
theorem dX5_init_11 : decode cX5_init 11 = .ok (.newarray .long, 2) := by decide +kernel
theorem dX5_init_13 : decode cX5_init 13 = .ok (.putfield 13, 3) := by decide +kernel
theorem dX5_init_16 : decode cX5_init 16 = .ok (.return_, 1) := by decide +kernel
theorem dX6_init_0 : decode cX6_init 0 = .ok (.aload_n 0, 1) := by decide +kernel
theorem dX6_init_1 : decode cX6_init 1 = .ok (.invokespecial 1, 3) := by decide +kernel
theorem dX6_init_4 : decode cX6_init 4 = .ok (.aload_n 0, 1) := by decide +kernel
theorem dX6_init_5 : decode cX6_init 5 = .ok (.lconst 0, 1) := by decide +kernel
theorem dX6_init_6 : decode cX6_init 6 = .ok (.putfield 7, 3) := by decide +kernel
theorem dX6_init_9 : decode cX6_init 9 = .ok (.aload_n 0, 1) := by decide +kernel
theorem dX6_init_10 : decode cX6_init 10 = .ok (.iload_n 1, 1) := by decide +kernel
theorem dX6_init_11 : decode cX6_init 11 = .ok (.putfield 13, 3) := by decide +kernel
theorem dX6_init_14 : decode cX6_init 14 = .ok (.aload_n 0, 1) := by decide +kernel
theorem dX6_init_15 : decode cX6_init 15 = .ok (.lload_n 2, 1) := by decide +kernel
theorem dX6_init_16 : decode cX6_init 16 = .ok (.putfield 17, 3) := by decide +kernel
theorem dX6_init_19 : decode cX6_init 19 = .ok (.return_, 1) := by decide +kernel
theorem dJxe99ae_isNaN_b9ae7_0 : decode cJxe99ae_isNaN_b9ae7 0 = .ok (.dload_n 0, 1) := by decide +kernel
theorem dJxe99ae_isNaN_b9ae7_1 : decode cJxe99ae_isNaN_b9ae7 1 = .ok (.dload_n 0, 1) := by decide +kernel
theorem dJxe99ae_isNaN_b9ae7_2 : decode cJxe99ae_isNaN_b9ae7 2 = .ok (.dcmp .l, 1) := by decide +kernel
theorem dJxe99ae_isNaN_b9ae7_3 : decode cJxe99ae_isNaN_b9ae7 3 = .ok (.ifCond .eq 7, 3) := by decide +kernel
theorem dJxe99ae_isNaN_b9ae7_6 : decode cJxe99ae_isNaN_b9ae7 6 = .ok (.iconst 1, 1) := by decide +kernel
theorem dJxe99ae_isNaN_b9ae7_7 : decode cJxe99ae_isNaN_b9ae7 7 = .ok (.goto 4, 3) := by decide +kernel
theorem dJxe99ae_isNaN_b9ae7_10 : decode cJxe99ae_isNaN_b9ae7 10 = .ok (.iconst 0, 1) := by decide +kernel
theorem dJxe99ae_isNaN_b9ae7_11 : decode cJxe99ae_isNaN_b9ae7 11 = .ok (.ireturn, 1) := by decide +kernel
set_option maxRecDepth 20000 in
theorem ggJxe99ae_doubleToLongBits_ccdee_Jxe99ae_isNaN_b9ae7 : GoodIn wsJxe99ae_doubleToLongBits_ccdee wsJxe99ae_isNaN_b9ae7 := goodIn_r _ [9] (by decide +kernel) (by decide +kernel)
set_option maxRecDepth 20000 in
theorem gJxe99ae_doubleToLongBits_ccdee_Jxe99ae_isNaN_b9ae7 : GoodIn wsJxe99ae_doubleToLongBits_ccdee (va_wsS RJxe99ae 122 yJxe99ae_isNaN_b9ae7 wsJxe99ae_isNaN_b9ae7) := goodIn_app (goodIn_of _ (by decide +kernel)) ggJxe99ae_doubleToLongBits_ccdee_Jxe99ae_isNaN_b9ae7
theorem dJxe99ae_doubleToLongBits_ccdee_0 : decode cJxe99ae_doubleToLongBits_ccdee 0 = .ok (.dload_n 0, 1) := by decide +kernel
theorem dJxe99ae_doubleToLongBits_ccdee_1 : decode cJxe99ae_doubleToLongBits_ccdee 1 = .ok (.invokestatic 122, 3) := by decide +kernel
theorem dJxe99ae_doubleToLongBits_ccdee_4 : decode cJxe99ae_doubleToLongBits_ccdee 4 = .ok (.ifCond .ne 8, 3) := by decide +kernel
theorem dJxe99ae_doubleToLongBits_ccdee_7 : decode cJxe99ae_doubleToLongBits_ccdee 7 = .ok (.dload_n 0, 1) := by decide +kernel
theorem dJxe99ae_doubleToLongBits_ccdee_8 : decode cJxe99ae_doubleToLongBits_ccdee 8 = .ok (.invokestatic 134, 3) := by decide +kernel
theorem dJxe99ae_doubleToLongBits_ccdee_11 : decode cJxe99ae_doubleToLongBits_ccdee 11 = .ok (.lreturn, 1) := by decide +kernel
theorem dJxe99ae_doubleToLongBits_ccdee_12 : decode cJxe99ae_doubleToLongBits_ccdee 12 = .ok (.ldc2_w 137, 3) := by decide +kernel
theorem dJxe99ae_doubleToLongBits_ccdee_15 : decode cJxe99ae_doubleToLongBits_ccdee 15 = .ok (.lreturn, 1) := by decide +kernel
theorem dJxf58ca_isNaN_12338_0 : decode cJxf58ca_isNaN_12338 0 = .ok (.fload_n 0, 1) := by decide +kernel
theorem dJxf58ca_isNaN_12338_1 : decode cJxf58ca_isNaN_12338 1 = .ok (.fload_n 0, 1) := by decide +kernel
theorem dJxf58ca_isNaN_12338_2 : decode cJxf58ca_isNaN_12338 2 = .ok (.fcmp .l, 1) := by decide +kernel
theorem dJxf58ca_isNaN_12338_3 : decode cJxf58ca_isNaN_12338 3 = .ok (.ifCond .eq 7, 3) := by decide +kernel
theorem dJxf58ca_isNaN_12338_6 : decode cJxf58ca_isNaN_12338 6 = .ok (.iconst 1, 1) := by decide +kernel
theorem dJxf58ca_isNaN_12338_7 : decode cJxf58ca_isNaN_12338 7 = .ok (.goto 4, 3) := by decide +kernel
theorem dJxf58ca_isNaN_12338_10 : decode cJxf58ca_isNaN_12338 10 = .ok (.iconst 0, 1) := by decide +kernel
theorem dJxf58ca_isNaN_12338_11 : decode cJxf58ca_isNaN_12338 11 = .ok (.ireturn, 1) := by decide +kernel
set_option maxRecDepth 20000 in
theorem ggJxf58ca_floatToIntBits_5c35a_Jxf58ca_isNaN_12338 : GoodIn wsJxf58ca_floatToIntBits_5c35a wsJxf58ca_isNaN_12338 := goodIn_r _ [9] (by decide +kernel) (by decide +kernel)
set_option maxRecDepth 20000 in
theorem gJxf58ca_floatToIntBits_5c35a_Jxf58ca_isNaN_12338 : GoodIn wsJxf58ca_floatToIntBits_5c35a (va_wsS RJxf58ca 59 yJxf58ca_isNaN_12338 wsJxf58ca_isNaN_12338) := goodIn_app (goodIn_of _ (by decide +kernel)) ggJxf58ca_floatToIntBits_5c35a_Jxf58ca_isNaN_12338
theorem dJxf58ca_floatToIntBits_5c35a_0 : decode cJxf58ca_floatToIntBits_5c35a 0 = .ok (.fload_n 0, 1) := by decide +kernel
theorem dJxf58ca_floatToIntBits_5c35a_1 : decode cJxf58ca_floatToIntBits_5c35a 1 = .ok (.invokestatic 59, 3) := by decide +kernel
theorem dJxf58ca_floatToIntBits_5c35a_4 : decode cJxf58ca_floatToIntBits_5c35a 4 = .ok (.ifCond .ne 8, 3) := by decide +kernel
theorem dJxf58ca_floatToIntBits_5c35a_7 : decode cJxf58ca_floatToIntBits_5c35a 7 = .ok (.fload_n 0, 1) := by decide +kernel
theorem dJxf58ca_floatToIntBits_5c35a_8 : decode cJxf58ca_floatToIntBits_5c35a 8 = .ok (.invokestatic 74, 3) := by decide +kernel
theorem dJxf58ca_floatToIntBits_5c35a_11 : decode cJxf58ca_floatToIntBits_5c35a 11 = .ok (.ireturn, 1) := by decide +kernel
theorem dJxf58ca_floatToIntBits_5c35a_12 : decode cJxf58ca_floatToIntBits_5c35a 12 = .ok (.ldc 77, 2) := by decide +kernel
theorem dJxf58ca_floatToIntBits_5c35a_14 : decode cJxf58ca_floatToIntBits_5c35a 14 = .ok (.ireturn, 1) := by decide +kernel
theorem dJ6_numberOfLeadingZeros_0f7a4_0 : decode cJ6_numberOfLeadingZeros_0f7a4 0 = .ok (.iload_n 0, 1) := by decide +kernel
theorem dJ6_numberOfLeadingZeros_0f7a4_1 : decode cJ6_numberOfLeadingZeros_0f7a4 1 = .ok (.ifCond .gt 14, 3) := by decide +kernel
theorem dJ6_numberOfLeadingZeros_0f7a4_4 : decode cJ6_numberOfLeadingZeros_0f7a4 4 = .ok (.iload_n 0, 1) := by decide +kernel
theorem dJ6_numberOfLeadingZeros_0f7a4_5 : decode cJ6_numberOfLeadingZeros_0f7a4 5 = .ok (.ifCond .ne 8, 3) := by decide +kernel
theorem dJ6_numberOfLeadingZeros_0f7a4_8 : decode cJ6_numberOfLeadingZeros_0f7a4 8 = .ok (.bipush 32, 2) := by decide +kernel
theorem dJ6_numberOfLeadingZeros_0f7a4_10 : decode cJ6_numberOfLeadingZeros_0f7a4 10 = .ok (.goto 4, 3) := by decide +kernel
theorem dJ6_numberOfLeadingZeros_0f7a4_13 : decode cJ6_numberOfLeadingZeros_0f7a4 13 = .ok (.iconst 0, 1) := by decide +kernel
theorem dJ6_numberOfLeadingZeros_0f7a4_14 : decode cJ6_numberOfLeadingZeros_0f7a4 14 = .ok (.ireturn, 1) := by decide +kernel
theorem dJ6_numberOfLeadingZeros_0f7a4_15 : decode cJ6_numberOfLeadingZeros_0f7a4 15 = .ok (.bipush 31, 2) := by decide +kernel
theorem dJ6_numberOfLeadingZeros_0f7a4_17 : decode cJ6_numberOfLeadingZeros_0f7a4 17 = .ok (.istore_n 1, 1) := by decide +kernel
theorem dJ6_numberOfLeadingZeros_0f7a4_18 : decode cJ6_numberOfLeadingZeros_0f7a4 18 = .ok (.iload_n 0, 1) := by decide +kernel
theorem dJ6_numberOfLeadingZeros_0f7a4_19 : decode cJ6_numberOfLeadingZeros_0f7a4 19 = .ok (.ldc_w 264, 3) := by decide +kernel
theorem dJ6_numberOfLeadingZeros_0f7a4_22 : decode cJ6_numberOfLeadingZeros_0f7a4 22 = .ok (.if_icmp .lt 11, 3) := by decide +kernel
theorem dJ6_numberOfLeadingZeros_0f7a4_25 : decode cJ6_numberOfLeadingZeros_0f7a4 25 = .ok (.iinc 1 (-16), 3) := by decide +kernel
theorem dJ6_numberOfLeadingZeros_0f7a4_28 : decode cJ6_numberOfLeadingZeros_0f7a4 28 = .ok (.iload_n 0, 1) := by decide +kernel
theorem dJ6_numberOfLeadingZeros_0f7a4_29 : decode cJ6_numberOfLeadingZeros_0f7a4 29 = .ok (.bipush 16, 2) := by decide +kernel
theorem dJ6_numberOfLeadingZeros_0f7a4_31 : decode cJ6_numberOfLeadingZeros_0f7a4 31 = .ok (.iushr, 1) := by decide +kernel
theorem dJ6_numberOfLeadingZeros_0f7a4_32 : decode cJ6_numberOfLeadingZeros_0f7a4 32 = .ok (.istore_n 0, 1) := by decide +kernel
theorem dJ6_numberOfLeadingZeros_0f7a4_33 : decode cJ6_numberOfLeadingZeros_0f7a4 33 = .ok (.iload_n 0, 1) := by decide +kernel
theorem dJ6_numberOfLeadingZeros_0f7a4_34 : decode cJ6_numberOfLeadingZeros_0f7a4 34 = .ok (.sipush 256, 3) := by decide +kernel
theorem dJ6_numberOfLeadingZeros_0f7a4_37 : decode cJ6_numberOfLeadingZeros_0f7a4 37 = .ok (.if_icmp .lt 11, 3) := by decide +kernel
theorem dJ6_numberOfLeadingZeros_0f7a4_40 : decode cJ6_numberOfLeadingZeros_0f7a4 40 = .ok (.iinc 1 (-8), 3) := by decide +kernel
theorem dJ6_numberOfLeadingZeros_0f7a4_43 : decode cJ6_numberOfLeadingZeros_0f7a4 43 = .ok (.iload_n 0, 1) := by decide +kernel
theorem dJ6_numberOfLeadingZeros_0f7a4_44 : decode cJ6_numberOfLeadingZeros_0f7a4 44 = .ok (.bipush 8, 2) := by decide +kernel
theorem dJ6_numberOfLeadingZeros_0f7a4_46 : decode cJ6_numberOfLeadingZeros_0f7a4 46 = .ok (.iushr, 1) := by decide +kernel
theorem dJ6_numberOfLeadingZeros_0f7a4_47 : decode cJ6_numberOfLeadingZeros_0f7a4 47 = .ok (.istore_n 0, 1) := by decide +kernel
theorem dJ6_numberOfLeadingZeros_0f7a4_48 : decode cJ6_numberOfLeadingZeros_0f7a4 48 = .ok (.iload_n 0, 1) := by decide +kernel
theorem dJ6_numberOfLeadingZeros_0f7a4_49 : decode cJ6_numberOfLeadingZeros_0f7a4 49 = .ok (.bipush 16, 2) := by decide +kernel
theorem dJ6_numberOfLeadingZeros_0f7a4_51 : decode cJ6_numberOfLeadingZeros_0f7a4 51 = .ok (.if_icmp .lt 10, 3) := by decide +kernel
theorem dJ6_numberOfLeadingZeros_0f7a4_54 : decode cJ6_numberOfLeadingZeros_0f7a4 54 = .ok (.iinc 1 (-4), 3) := by decide +kernel
theorem dJ6_numberOfLeadingZeros_0f7a4_57 : decode cJ6_numberOfLeadingZeros_0f7a4 57 = .ok (.iload_n 0, 1) := by decide +kernel
theorem dJ6_numberOfLeadingZeros_0f7a4_58 : decode cJ6_numberOfLeadingZeros_0f7a4 58 = .ok (.iconst 4, 1) := by decide +kernel
theorem dJ6_numberOfLeadingZeros_0f7a4_59 : decode cJ6_numberOfLeadingZeros_0f7a4 59 = .ok (.iushr, 1) := by decide +kernel
theorem dJ6_numberOfLeadingZeros_0f7a4_60 : decode cJ6_numberOfLeadingZeros_0f7a4 60 = .ok (.istore_n 0, 1) := by decide +kernel
theorem dJ6_numberOfLeadingZeros_0f7a4_61 : decode cJ6_numberOfLeadingZeros_0f7a4 61 = .ok (.iload_n 0, 1) := by decide +kernel
theorem dJ6_numberOfLeadingZeros_0f7a4_62 : decode cJ6_numberOfLeadingZeros_0f7a4 62 = .ok (.iconst 4, 1) := by decide +kernel
theorem dJ6_numberOfLeadingZeros_0f7a4_63 : decode cJ6_numberOfLeadingZeros_0f7a4 63 = .ok (.if_icmp .lt 10, 3) := by decide +kernel
theorem dJ6_numberOfLeadingZeros_0f7a4_66 : decode cJ6_numberOfLeadingZeros_0f7a4 66 = .ok (.iinc 1 (-2), 3) := by decide +kernel
theorem dJ6_numberOfLeadingZeros_0f7a4_69 : decode cJ6_numberOfLeadingZeros_0f7a4 69 = .ok (.iload_n 0, 1) := by decide +kernel
theorem dJ6_numberOfLeadingZeros_0f7a4_70 : decode cJ6_numberOfLeadingZeros_0f7a4 70 = .ok (.iconst 2, 1) := by decide +kernel
theorem dJ6_numberOfLeadingZeros_0f7a4_71 : decode cJ6_numberOfLeadingZeros_0f7a4 71 = .ok (.iushr, 1) := by decide +kernel
theorem dJ6_numberOfLeadingZeros_0f7a4_72 : decode cJ6_numberOfLeadingZeros_0f7a4 72 = .ok (.istore_n 0, 1) := by decide +kernel
theorem dJ6_numberOfLeadingZeros_0f7a4_73 : decode cJ6_numberOfLeadingZeros_0f7a4 73 = .ok (.iload_n 1, 1) := by decide +kernel
theorem dJ6_numberOfLeadingZeros_0f7a4_74 : decode cJ6_numberOfLeadingZeros_0f7a4 74 = .ok (.iload_n 0, 1) := by decide +kernel
theorem dJ6_numberOfLeadingZeros_0f7a4_75 : decode cJ6_numberOfLeadingZeros_0f7a4 75 = .ok (.iconst 1, 1) := by decide +kernel
theorem dJ6_numberOfLeadingZeros_0f7a4_76 : decode cJ6_numberOfLeadingZeros_0f7a4 76 = .ok (.iushr, 1) := by decide +kernel
theorem dJ6_numberOfLeadingZeros_0f7a4_77 : decode cJ6_numberOfLeadingZeros_0f7a4 77 = .ok (.isub, 1) := by decide +kernel
theorem dJ6_numberOfLeadingZeros_0f7a4_78 : decode cJ6_numberOfLeadingZeros_0f7a4 78 = .ok (.ireturn, 1) := by decide +kernel
set_option maxRecDepth 20000 in
theorem ggJ13_numberOfLeadingZeros_95d88_J6_numberOfLeadingZeros_0f7a4 : GoodIn wsJ13_numberOfLeadingZeros_95d88 wsJ6_numberOfLeadingZeros_0f7a4 := goodIn_r _ [4, 5] (by decide +kernel) (by decide +kernel)
set_option maxRecDepth 20000 in
theorem gJ13_numberOfLeadingZeros_95d88_J6_numberOfLeadingZeros_0f7a4 : GoodIn wsJ13_numberOfLeadingZeros_95d88 (va_wsS RJ13 308 yJ6_numberOfLeadingZeros_0f7a4 wsJ6_numberOfLeadingZeros_0f7a4) := goodIn_app (goodIn_of _ (by decide +kernel)) ggJ13_numberOfLeadingZeros_95d88_J6_numberOfLeadingZeros_0f7a4
theorem dJ13_numberOfLeadingZeros_95d88_0 : decode cJ13_numberOfLeadingZeros_95d88 0 = .ok (.lload_n 0, 1) := by decide +kernel
theorem dJ13_numberOfLeadingZeros_95d88_1 : decode cJ13_numberOfLeadingZeros_95d88 1 = .ok (.bipush 32, 2) := by decide +kernel
theorem dJ13_numberOfLeadingZeros_95d88_3 : decode cJ13_numberOfLeadingZeros_95d88 3 = .ok (.lushr, 1) := by decide +kernel
theorem dJ13_numberOfLeadingZeros_95d88_4 : decode cJ13_numberOfLeadingZeros_95d88 4 = .ok (.l2i, 1) := by decide +kernel
theorem dJ13_numberOfLeadingZeros_95d88_5 : decode cJ13_numberOfLeadingZeros_95d88 5 = .ok (.istore_n 2, 1) := by decide +kernel
theorem dJ13_numberOfLeadingZeros_95d88_6 : decode cJ13_numberOfLeadingZeros_95d88 6 = .ok (.iload_n 2, 1) := by decide +kernel
theorem dJ13_numberOfLeadingZeros_95d88_7 : decode cJ13_numberOfLeadingZeros_95d88 7 = .ok (.ifCond .ne 14, 3) := by decide +kernel
theorem dJ13_numberOfLeadingZeros_95d88_10 : decode cJ13_numberOfLeadingZeros_95d88 10 = .ok (.bipush 32, 2) := by decide +kernel
theorem dJ13_numberOfLeadingZeros_95d88_12 : decode cJ13_numberOfLeadingZeros_95d88 12 = .ok (.lload_n 0, 1) := by decide +kernel
theorem dJ13_numberOfLeadingZeros_95d88_13 : decode cJ13_numberOfLeadingZeros_95d88 13 = .ok (.l2i, 1) := by decide +kernel
theorem dJ13_numberOfLeadingZeros_95d88_14 : decode cJ13_numberOfLeadingZeros_95d88 14 = .ok (.invokestatic 308, 3) := by decide +kernel
theorem dJ13_numberOfLeadingZeros_95d88_17 : decode cJ13_numberOfLeadingZeros_95d88 17 = .ok (.iadd, 1) := by decide +kernel
theorem dJ13_numberOfLeadingZeros_95d88_18 : decode cJ13_numberOfLeadingZeros_95d88 18 = .ok (.goto 7, 3) := by decide +kernel
theorem dJ13_numberOfLeadingZeros_95d88_21 : decode cJ13_numberOfLeadingZeros_95d88 21 = .ok (.iload_n 2, 1) := by decide +kernel
theorem dJ13_numberOfLeadingZeros_95d88_22 : decode cJ13_numberOfLeadingZeros_95d88 22 = .ok (.invokestatic 308, 3) := by decide +kernel
theorem dJ13_numberOfLeadingZeros_95d88_25 : decode cJ13_numberOfLeadingZeros_95d88 25 = .ok (.ireturn, 1) := by decide +kernel
theorem dJ9_max_7cf53_0 : decode cJ9_max_7cf53 0 = .ok (.iload_n 0, 1) := by decide +kernel
theorem dJ9_max_7cf53_1 : decode cJ9_max_7cf53 1 = .ok (.iload_n 1, 1) := by decide +kernel
theorem dJ9_max_7cf53_2 : decode cJ9_max_7cf53 2 = .ok (.if_icmp .lt 7, 3) := by decide +kernel
theorem dJ9_max_7cf53_5 : decode cJ9_max_7cf53 5 = .ok (.iload_n 0, 1) := by decide +kernel
theorem dJ9_max_7cf53_6 : decode cJ9_max_7cf53 6 = .ok (.goto 4, 3) := by decide +kernel
theorem dJ9_max_7cf53_9 : decode cJ9_max_7cf53 9 = .ok (.iload_n 1, 1) := by decide +kernel
theorem dJ9_max_7cf53_10 : decode cJ9_max_7cf53 10 = .ok (.ireturn, 1) := by decide +kernel
theorem dJ9_min_7cf53_0 : decode cJ9_min_7cf53 0 = .ok (.iload_n 0, 1) := by decide +kernel
theorem dJ9_min_7cf53_1 : decode cJ9_min_7cf53 1 = .ok (.iload_n 1, 1) := by decide +kernel
theorem dJ9_min_7cf53_2 : decode cJ9_min_7cf53 2 = .ok (.if_icmp .gt 7, 3) := by decide +kernel
theorem dJ9_min_7cf53_5 : decode cJ9_min_7cf53 5 = .ok (.iload_n 0, 1) := by decide +kernel
theorem dJ9_min_7cf53_6 : decode cJ9_min_7cf53 6 = .ok (.goto 4, 3) := by decide +kernel
theorem dJ9_min_7cf53_9 : decode cJ9_min_7cf53 9 = .ok (.iload_n 1, 1) := by decide +kernel
theorem dJ9_min_7cf53_10 : decode cJ9_min_7cf53 10 = .ok (.ireturn, 1) := by decide +kernel
