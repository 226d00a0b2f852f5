theorem dX8_init_0 : decode cX8_init 0 = .ok (.aload_n 0, 1) := by decide +kernel
theorem dX8_init_1 : decode cX8_init 1 = .ok (.invokespecial 1, 3) := by decide +kernel
theorem dX8_init_4 : decode cX8_init 4 = .ok (.aload_n 0, 1) := by decide +kernel
theorem dX8_init_5 : decode cX8_init 5 = .ok (.bipush 8, 2) := by decide +kernel
theorem dX8_init_7 : decode cX8_init 7 = .ok (.newarray .int, 2) := by decide +kernel
theorem dX8_init_9 : decode cX8_init 9 = .ok (.putfield 7, 3) := by decide +kernel
theorem dX8_init_12 : decode cX8_init 12 = .ok (.aload_n 0, 1) := by decide +kernel
theorem dX8_init_13 : decode cX8_init 13 = .ok (.bipush 10, 2) := by decide +kernel
theorem dX8_init_15 : decode cX8_init 15 = .ok (.newarray .int, 2) := by decide +kernel
theorem dX8_init_17 : decode cX8_init 17 = .ok (.putfield 13, 3) := by decide +kernel
theorem dX8_init_20 : decode cX8_init 20 = .ok (.aload_n 0, 1) := by decide +kernel
theorem dX8_init_21 : decode cX8_init 21 = .ok (.bipush 10, 2) := by decide +kernel
theorem dX8_init_23 : decode cX8_init 23 = .ok (.newarray .double, 2) := by decide +kernel
theorem dX8_init_25 : decode cX8_init 25 = .ok (.putfield 16, 3) := by decide +kernel
theorem dX8_init_28 : decode cX8_init 28 = .ok (.aload_n 0, 1) := by decide +kernel
theorem dX8_init_29 : decode cX8_init 29 = .ok (.bipush 10, 2) := by decide +kernel
theorem dX8_init_31 : decode cX8_init 31 = .ok (.newarray .double, 2) := by decide +kernel
theorem dX8_init_33 : decode cX8_init 33 = .ok (.putfield 20, 3) := by decide +kernel
theorem dX8_init_36 : decode cX8_init 36 = .ok (.aload_n 0, 1) := by decide +kernel
theorem dX8_init_37 : decode cX8_init 37 = .ok (.bipush 16, 2) := by decide +kernel
theorem dX8_init_39 : decode cX8_init 39 = .ok (.newarray .int, 2) := by decide +kernel
theorem dX8_init_41 : decode cX8_init 41 = .ok (.putfield 23, 3) := by decide +kernel
theorem dX8_init_44 : decode cX8_init 44 = .ok (.aload_n 0, 1) := by decide +kernel
theorem dX8_init_45 : decode cX8_init 45 = .ok (.bipush 16, 2) := by decide +kernel
theorem dX8_init_47 : decode cX8_init 47 = .ok (.newarray .long, 2) := by decide +kernel
theorem dX8_init_49 : decode cX8_init 49 = .ok (.putfield 26, 3) := by decide +kernel
theorem dX8_init_52 : decode cX8_init 52 = .ok (.aload_n 0, 1) := by decide +kernel
theorem dX8_init_53 : decode cX8_init 53 = .ok (.bipush 16, 2) := by decide +kernel
theorem dX8_init_55 : decode cX8_init 55 = .ok (.newarray .double, 2) := by decide +kernel
theorem dX8_init_57 : decode cX8_init 57 = .ok (.putfield 30, 3) := by decide +kernel
theorem dX8_init_60 : decode cX8_init 60 = .ok (.aload_n 0, 1) := by decide +kernel
theorem dX8_init_61 : decode cX8_init 61 = .ok (.bipush 8, 2) := by decide +kernel
theorem dX8_init_63 : decode cX8_init 63 = .ok (.newarray .int, 2) := by decide +kernel
theorem dX8_init_65 : decode cX8_init 65 = .ok (.putfield 33, 3) := by decide +kernel
theorem dX8_init_68 : decode cX8_init 68 = .ok (.aload_n 0, 1) := by decide +kernel
theorem dX8_init_69 : decode cX8_init 69 = .ok (.bipush 8, 2) := by decide +kernel
theorem dX8_init_71 : decode cX8_init 71 = .ok (.newarray .int, 2) := by decide +kernel
theorem dX8_init_73 : decode cX8_init 73 = .ok (.putfield 36, 3) := by decide +kernel
theorem dX8_init_76 : decode cX8_init 76 = .ok (.aload_n 0, 1) := by decide +kernel
theorem dX8_init_77 : decode cX8_init 77 = .ok (.bipush 8, 2) := by decide +kernel
theorem dX8_init_79 : decode cX8_init 79 = .ok (.newarray .boolean, 2) := by decide +kernel
theorem dX8_init_81 : decode cX8_init 81 = .ok (.putfield 39, 3) := by decide +kernel
theorem dX8_init_84 : decode cX8_init 84 = .ok (.aload_n 0, 1) := by decide +kernel
theorem dX8_init_85 : decode cX8_init 85 = .ok (.sipush 128, 3) := by decide +kernel
theorem dX8_init_88 : decode cX8_init 88 = .ok (.newarray .long, 2) := by decide +kernel
theorem dX8_init_90 : decode cX8_init 90 = .ok (.putfield 43, 3) := by decide +kernel
theorem dX8_init_93 : decode cX8_init 93 = .ok (.aload_n 0, 1) := by decide +kernel
theorem dX8_init_94 : decode cX8_init 94 = .ok (.sipush 128, 3) := by decide +kernel
theorem dX8_init_97 : decode cX8_init 97 = .ok (.newarray .double, 2) := by decide +kernel
theorem dX8_init_99 : decode cX8_init 99 = .ok (.putfield 46, 3) := by decide +kernel
theorem dX8_init_102 : decode cX8_init 102 = .ok (.aload_n 0, 1) := by decide +kernel
theorem dX8_init_103 : decode cX8_init 103 = .ok (.bipush 12, 2) := by decide +kernel
theorem dX8_init_105 : decode cX8_init 105 = .ok (.newarray .int, 2) := by decide +kernel
theorem dX8_init_107 : decode cX8_init 107 = .ok (.putfield 49, 3) := by decide +kernel
theorem dX8_init_110 : decode cX8_init 110 = .ok (.aload_n 0, 1) := by decide +kernel
theorem dX8_init_111 : decode cX8_init 111 = .ok (.bipush 12, 2) := by decide +kernel
theorem dX8_init_113 : decode cX8_init 113 = .ok (.newarray .int, 2) := by decide +kernel
theorem dX8_init_115 : decode cX8_init 115 = .ok (.putfield 52, 3) := by decide +kernel
theorem dX8_init_118 : decode cX8_init 118 = .ok (.aload_n 0, 1) := by decide +kernel
theorem dX8_init_119 : decode cX8_init 119 = .ok (.bipush 8, 2) := by decide +kernel
theorem dX8_init_121 : decode cX8_init 121 = .ok (.newarray .int, 2) := by decide +kernel
theorem dX8_init_123 : decode cX8_init 123 = .ok (.putfield 55, 3) := by decide +kernel
theorem dX8_init_126 : decode cX8_init 126 = .ok (.aload_n 0, 1) := by decide +kernel
theorem dX8_init_127 : decode cX8_init 127 = .ok (.bipush 8, 2) := by decide +kernel
theorem dX8_init_129 : decode cX8_init 129 = .ok (.newarray .int, 2) := by decide +kernel
theorem dX8_init_131 : decode cX8_init 131 = .ok (.putfield 58, 3) := by decide +kernel
theorem dX8_init_134 : decode cX8_init 134 = .ok (.aload_n 0, 1) := by decide +kernel
theorem dX8_init_135 : decode cX8_init 135 = .ok (.bipush 48, 2) := by decide +kernel
theorem dX8_init_137 : decode cX8_init 137 = .ok (.newarray .int, 2) := by decide +kernel
theorem dX8_init_139 : decode cX8_init 139 = .ok (.putfield 61, 3) := by decide +kernel
theorem dX8_init_142 : decode cX8_init 142 = .ok (.return_, 1) := by decide +kernel
theorem dX8_isIn_0 : decode cX8_isIn 0 = .ok (.iload_n 0, 1) := by decide +kernel
theorem dX8_isIn_1 : decode cX8_isIn 1 = .ok (.iload_n 1, 1) := by decide +kernel
theorem dX8_isIn_2 : decode cX8_isIn 2 = .ok (.if_icmp .lt 12, 3) := by decide +kernel
theorem dX8_isIn_5 : decode cX8_isIn 5 = .ok (.iload_n 0, 1) := by decide +kernel
theorem dX8_isIn_6 : decode cX8_isIn 6 = .ok (.iload_n 2, 1) := by decide +kernel
theorem dX8_isIn_7 : decode cX8_isIn 7 = .ok (.if_icmp .gt 7, 3) := by decide +kernel
theorem dX8_isIn_10 : decode cX8_isIn 10 = .ok (.iconst 1, 1) := by decide +kernel
theorem dX8_isIn_11 : decode cX8_isIn 11 = .ok (.goto 4, 3) := by decide +kernel
theorem dX8_isIn_14 : decode cX8_isIn 14 = .ok (.iconst 0, 1) := by decide +kernel
theorem dX8_isIn_15 : decode cX8_isIn 15 = .ok (.ireturn, 1) := by decide +kernel
theorem dX8_refuse_0 : decode cX8_refuse 0 = .ok (.aload_n 0, 1) := by decide +kernel
theorem dX8_refuse_1 : decode cX8_refuse 1 = .ok (.iload_n 1, 1) := by decide +kernel
theorem dX8_refuse_2 : decode cX8_refuse 2 = .ok (.putfield 64, 3) := by decide +kernel
theorem dX8_refuse_5 : decode cX8_refuse 5 = .ok (.iload_n 1, 1) := by decide +kernel
theorem dX8_refuse_6 : decode cX8_refuse 6 = .ok (.bipush (-3), 2) := by decide +kernel
theorem dX8_refuse_8 : decode cX8_refuse 8 = .ok (.if_icmp .gt 16, 3) := by decide +kernel
theorem dX8_refuse_11 : decode cX8_refuse 11 = .ok (.aload_n 0, 1) := by decide +kernel
theorem dX8_refuse_12 : decode cX8_refuse 12 = .ok (.getfield 7, 3) := by decide +kernel
theorem dX8_refuse_15 : decode cX8_refuse 15 = .ok (.bipush (-3), 2) := by decide +kernel
theorem dX8_refuse_17 : decode cX8_refuse 17 = .ok (.iload_n 1, 1) := by decide +kernel
theorem dX8_refuse_18 : decode cX8_refuse 18 = .ok (.isub, 1) := by decide +kernel
theorem dX8_refuse_19 : decode cX8_refuse 19 = .ok (.dup2, 1) := by decide +kernel
theorem dX8_refuse_20 : decode cX8_refuse 20 = .ok (.iaload, 1) := by decide +kernel
theorem dX8_refuse_21 : decode cX8_refuse 21 = .ok (.iconst 1, 1) := by decide +kernel
theorem dX8_refuse_22 : decode cX8_refuse 22 = .ok (.iadd, 1) := by decide +kernel
theorem dX8_refuse_23 : decode cX8_refuse 23 = .ok (.iastore, 1) := by decide +kernel
theorem dX8_refuse_24 : decode cX8_refuse 24 = .ok (.iload_n 1, 1) := by decide +kernel
theorem dX8_refuse_25 : decode cX8_refuse 25 = .ok (.ireturn, 1) := by decide +kernel
theorem dX8_isNumber_0 : decode cX8_isNumber 0 = .ok (.lload_n 0, 1) := by decide +kernel
theorem dX8_isNumber_1 : decode cX8_isNumber 1 = .ok (.ldc2_w 68, 3) := by decide +kernel
theorem dX8_isNumber_4 : decode cX8_isNumber 4 = .ok (.land, 1) := by decide +kernel
theorem dX8_isNumber_5 : decode cX8_isNumber 5 = .ok (.ldc2_w 70, 3) := by decide +kernel
theorem dX8_isNumber_8 : decode cX8_isNumber 8 = .ok (.lcmp, 1) := by decide +kernel
theorem dX8_isNumber_9 : decode cX8_isNumber 9 = .ok (.ifCond .gt 7, 3) := by decide +kernel
theorem dX8_isNumber_12 : decode cX8_isNumber 12 = .ok (.iconst 1, 1) := by decide +kernel
theorem dX8_isNumber_13 : decode cX8_isNumber 13 = .ok (.goto 4, 3) := by decide +kernel
theorem dX8_isNumber_16 : decode cX8_isNumber 16 = .ok (.iconst 0, 1) := by decide +kernel
theorem dX8_isNumber_17 : decode cX8_isNumber 17 = .ok (.ireturn, 1) := by decide +kernel
theorem dX8_isFloat_0 : decode cX8_isFloat 0 = .ok (.iload_n 0, 1) := by decide +kernel
theorem dX8_isFloat_1 : decode cX8_isFloat 1 = .ok (.ldc 72, 2) := by decide +kernel
theorem dX8_isFloat_3 : decode cX8_isFloat 3 = .ok (.iand, 1) := by decide +kernel
theorem dX8_isFloat_4 : decode cX8_isFloat 4 = .ok (.ldc 73, 2) := by decide +kernel
theorem dX8_isFloat_6 : decode cX8_isFloat 6 = .ok (.if_icmp .gt 7, 3) := by decide +kernel
theorem dX8_isFloat_9 : decode cX8_isFloat 9 = .ok (.iconst 1, 1) := by decide +kernel
theorem dX8_isFloat_10 : decode cX8_isFloat 10 = .ok (.goto 4, 3) := by decide +kernel
theorem dX8_isFloat_13 : decode cX8_isFloat 13 = .ok (.iconst 0, 1) := by decide +kernel
theorem dX8_isFloat_14 : decode cX8_isFloat 14 = .ok (.ireturn, 1) := by decide +kernel
theorem dX8_isEndless_0 : decode cX8_isEndless 0 = .ok (.dload_n 0, 1) := by decide +kernel
theorem dX8_isEndless_1 : decode cX8_isEndless 1 = .ok (.ldc2_w 76, 3) := by decide +kernel
theorem dX8_isEndless_4 : decode cX8_isEndless 4 = .ok (.dcmp .l, 1) := by decide +kernel
theorem dX8_isEndless_5 : decode cX8_isEndless 5 = .ok (.ifCond .eq 11, 3) := by decide +kernel
theorem dX8_isEndless_8 : decode cX8_isEndless 8 = .ok (.dload_n 0, 1) := by decide +kernel
theorem dX8_isEndless_9 : decode cX8_isEndless 9 = .ok (.ldc2_w 78, 3) := by decide +kernel
theorem dX8_isEndless_12 : decode cX8_isEndless 12 = .ok (.dcmp .l, 1) := by decide +kernel
theorem dX8_isEndless_13 : decode cX8_isEndless 13 = .ok (.ifCond .ne 7, 3) := by decide +kernel
theorem dX8_isEndless_16 : decode cX8_isEndless 16 = .ok (.iconst 1, 1) := by decide +kernel
theorem dX8_isEndless_17 : decode cX8_isEndless 17 = .ok (.goto 4, 3) := by decide +kernel
theorem dX8_isEndless_20 : decode cX8_isEndless 20 = .ok (.iconst 0, 1) := by decide +kernel
theorem dX8_isEndless_21 : decode cX8_isEndless 21 = .ok (.ireturn, 1) := by decide +kernel
theorem dX8_hold_0 : decode cX8_hold 0 = .ok (.aload_n 0, 1) := by decide +kernel
theorem dX8_hold_1 : decode cX8_hold 1 = .ok (.iload_n 1, 1) := by decide +kernel
theorem dX8_hold_2 : decode cX8_hold 2 = .ok (.putfield 80, 3) := by decide +kernel
theorem dX8_hold_5 : decode cX8_hold 5 = .ok (.aload_n 0, 1) := by decide +kernel
theorem dX8_hold_6 : decode cX8_hold 6 = .ok (.lload_n 2, 1) := by decide +kernel
theorem dX8_hold_7 : decode cX8_hold 7 = .ok (.putfield 83, 3) := by decide +kernel
theorem dX8_hold_10 : decode cX8_hold 10 = .ok (.aload_n 0, 1) := by decide +kernel
theorem dX8_hold_11 : decode cX8_hold 11 = .ok (.dload 4, 2) := by decide +kernel
theorem dX8_hold_13 : decode cX8_hold 13 = .ok (.putfield 87, 3) := by decide +kernel
theorem dX8_hold_16 : decode cX8_hold 16 = .ok (.return_, 1) := by decide +kernel
theorem dX8_cast_0 : decode cX8_cast 0 = .ok (.iload_n 1, 1) := by decide +kernel
theorem dX8_cast_1 : decode cX8_cast 1 = .ok (.iconst 2, 1) := by decide +kernel
theorem dX8_cast_2 : decode cX8_cast 2 = .ok (.if_icmp .ge 55, 3) := by decide +kernel
theorem dX8_cast_5 : decode cX8_cast 5 = .ok (.aload_n 0, 1) := by decide +kernel
theorem dX8_cast_6 : decode cX8_cast 6 = .ok (.getfield 80, 3) := by decide +kernel
theorem dX8_cast_9 : decode cX8_cast 9 = .ok (.iconst 2, 1) := by decide +kernel
theorem dX8_cast_10 : decode cX8_cast 10 = .ok (.if_icmp .ge 10, 3) := by decide +kernel
theorem dX8_cast_13 : decode cX8_cast 13 = .ok (.aload_n 0, 1) := by decide +kernel
theorem dX8_cast_14 : decode cX8_cast 14 = .ok (.getfield 83, 3) := by decide +kernel
theorem dX8_cast_17 : decode cX8_cast 17 = .ok (.goto 21, 3) := by decide +kernel
theorem dX8_cast_20 : decode cX8_cast 20 = .ok (.iload_n 1, 1) := by decide +kernel
theorem dX8_cast_21 : decode cX8_cast 21 = .ok (.ifCond .ne 12, 3) := by decide +kernel
theorem dX8_cast_24 : decode cX8_cast 24 = .ok (.aload_n 0, 1) := by decide +kernel
theorem dX8_cast_25 : decode cX8_cast 25 = .ok (.getfield 87, 3) := by decide +kernel
theorem dX8_cast_28 : decode cX8_cast 28 = .ok (.d2i, 1) := by decide +kernel
theorem dX8_cast_29 : decode cX8_cast 29 = .ok (.i2l, 1) := by decide +kernel
theorem dX8_cast_30 : decode cX8_cast 30 = .ok (.goto 8, 3) := by decide +kernel
theorem dX8_cast_33 : decode cX8_cast 33 = .ok (.aload_n 0, 1) := by decide +kernel
theorem dX8_cast_34 : decode cX8_cast 34 = .ok (.getfield 87, 3) := by decide +kernel
theorem dX8_cast_37 : decode cX8_cast 37 = .ok (.d2l, 1) := by decide +kernel
theorem dX8_cast_38 : decode cX8_cast 38 = .ok (.lstore_n 2, 1) := by decide +kernel
theorem dX8_cast_39 : decode cX8_cast 39 = .ok (.aload_n 0, 1) := by decide +kernel
theorem dX8_cast_40 : decode cX8_cast 40 = .ok (.iload_n 1, 1) := by decide +kernel
theorem dX8_cast_41 : decode cX8_cast 41 = .ok (.ifCond .ne 9, 3) := by decide +kernel
theorem dX8_cast_44 : decode cX8_cast 44 = .ok (.lload_n 2, 1) := by decide +kernel
theorem dX8_cast_45 : decode cX8_cast 45 = .ok (.l2i, 1) := by decide +kernel
theorem dX8_cast_46 : decode cX8_cast 46 = .ok (.i2l, 1) := by decide +kernel
theorem dX8_cast_47 : decode cX8_cast 47 = .ok (.goto 4, 3) := by decide +kernel
theorem dX8_cast_50 : decode cX8_cast 50 = .ok (.lload_n 2, 1) := by decide +kernel
theorem dX8_cast_51 : decode cX8_cast 51 = .ok (.putfield 83, 3) := by decide +kernel
theorem dX8_cast_54 : decode cX8_cast 54 = .ok (.goto 55, 3) := by decide +kernel
theorem dX8_cast_57 : decode cX8_cast 57 = .ok (.iload_n 1, 1) := by decide +kernel
theorem dX8_cast_58 : decode cX8_cast 58 = .ok (.iconst 2, 1) := by decide +kernel
theorem dX8_cast_59 : decode cX8_cast 59 = .ok (.if_icmp .ne 33, 3) := by decide +kernel
theorem dX8_cast_62 : decode cX8_cast 62 = .ok (.aload_n 0, 1) := by decide +kernel
theorem dX8_cast_63 : decode cX8_cast 63 = .ok (.aload_n 0, 1) := by decide +kernel
theorem dX8_cast_64 : decode cX8_cast 64 = .ok (.getfield 80, 3) := by decide +kernel
theorem dX8_cast_67 : decode cX8_cast 67 = .ok (.iconst 2, 1) := by decide +kernel
theorem dX8_cast_68 : decode cX8_cast 68 = .ok (.if_icmp .ge 12, 3) := by decide +kernel
theorem dX8_cast_71 : decode cX8_cast 71 = .ok (.aload_n 0, 1) := by decide +kernel
theorem dX8_cast_72 : decode cX8_cast 72 = .ok (.getfield 83, 3) := by decide +kernel
theorem dX8_cast_75 : decode cX8_cast 75 = .ok (.l2f, 1) := by decide +kernel
theorem dX8_cast_76 : decode cX8_cast 76 = .ok (.f2d, 1) := by decide +kernel
theorem dX8_cast_77 : decode cX8_cast 77 = .ok (.goto 9, 3) := by decide +kernel
theorem dX8_cast_80 : decode cX8_cast 80 = .ok (.aload_n 0, 1) := by decide +kernel
theorem dX8_cast_81 : decode cX8_cast 81 = .ok (.getfield 87, 3) := by decide +kernel
theorem dX8_cast_84 : decode cX8_cast 84 = .ok (.d2f, 1) := by decide +kernel
theorem dX8_cast_85 : decode cX8_cast 85 = .ok (.f2d, 1) := by decide +kernel
theorem dX8_cast_86 : decode cX8_cast 86 = .ok (.putfield 87, 3) := by decide +kernel
theorem dX8_cast_89 : decode cX8_cast 89 = .ok (.goto 20, 3) := by decide +kernel
theorem dX8_cast_92 : decode cX8_cast 92 = .ok (.aload_n 0, 1) := by decide +kernel
theorem dX8_cast_93 : decode cX8_cast 93 = .ok (.getfield 80, 3) := by decide +kernel
theorem dX8_cast_96 : decode cX8_cast 96 = .ok (.iconst 2, 1) := by decide +kernel
theorem dX8_cast_97 : decode cX8_cast 97 = .ok (.if_icmp .ge 12, 3) := by decide +kernel
theorem dX8_cast_100 : decode cX8_cast 100 = .ok (.aload_n 0, 1) := by decide +kernel
theorem dX8_cast_101 : decode cX8_cast 101 = .ok (.aload_n 0, 1) := by decide +kernel
theorem dX8_cast_102 : decode cX8_cast 102 = .ok (.getfield 83, 3) := by decide +kernel
theorem dX8_cast_105 : decode cX8_cast 105 = .ok (.l2d, 1) := by decide +kernel
theorem dX8_cast_106 : decode cX8_cast 106 = .ok (.putfield 87, 3) := by decide +kernel
theorem dX8_cast_109 : decode cX8_cast 109 = .ok (.aload_n 0, 1) := by decide +kernel
theorem dX8_cast_110 : decode cX8_cast 110 = .ok (.iload_n 1, 1) := by decide +kernel
theorem dX8_cast_111 : decode cX8_cast 111 = .ok (.putfield 80, 3) := by decide +kernel
theorem dX8_cast_114 : decode cX8_cast 114 = .ok (.return_, 1) := by decide +kernel
set_option maxRecDepth 20000 in
theorem ggX8_bits_Jxf58ca_floatToIntBits_5c35a : GoodIn wsX8_bits wsJxf58ca_floatToIntBits_5c35a := goodIn_r _ [7, 8, 9, 10, 11, 12, 13, 14, 6, 15] (by decide +kernel) (by decide +kernel)
set_option maxRecDepth 20000 in
theorem gX8_bits_Jxf58ca_floatToIntBits_5c35a : GoodIn wsX8_bits (va_wsS RX8 91 yJxf58ca_floatToIntBits_5c35a wsJxf58ca_floatToIntBits_5c35a) := goodIn_app (goodIn_of _ (by decide +kernel)) ggX8_bits_Jxf58ca_floatToIntBits_5c35a
set_option maxRecDepth 20000 in
theorem ggX8_bits_Jxe99ae_doubleToLongBits_ccdee : GoodIn wsX8_bits wsJxe99ae_doubleToLongBits_ccdee := goodIn_r _ [19, 20, 21, 22, 23, 24, 25, 26, 18, 27] (by decide +kernel) (by decide +kernel)
set_option maxRecDepth 20000 in
theorem gX8_bits_Jxe99ae_doubleToLongBits_ccdee : GoodIn wsX8_bits (va_wsS RX8 97 yJxe99ae_doubleToLongBits_ccdee wsJxe99ae_doubleToLongBits_ccdee) := goodIn_app (goodIn_of _ (by decide +kernel)) ggX8_bits_Jxe99ae_doubleToLongBits_ccdee
theorem dX8_bits_0 : decode cX8_bits 0 = .ok (.aload_n 0, 1) := by decide +kernel
theorem dX8_bits_1 : decode cX8_bits 1 = .ok (.getfield 80, 3) := by decide +kernel
theorem dX8_bits_4 : decode cX8_bits 4 = .ok (.iconst 2, 1) := by decide +kernel
theorem dX8_bits_5 : decode cX8_bits 5 = .ok (.if_icmp .ge 10, 3) := by decide +kernel
theorem dX8_bits_8 : decode cX8_bits 8 = .ok (.aload_n 0, 1) := by decide +kernel
theorem dX8_bits_9 : decode cX8_bits 9 = .ok (.getfield 83, 3) := by decide +kernel
theorem dX8_bits_12 : decode cX8_bits 12 = .ok (.goto 30, 3) := by decide +kernel
theorem dX8_bits_15 : decode cX8_bits 15 = .ok (.aload_n 0, 1) := by decide +kernel
theorem dX8_bits_16 : decode cX8_bits 16 = .ok (.getfield 80, 3) := by decide +kernel
theorem dX8_bits_19 : decode cX8_bits 19 = .ok (.iconst 2, 1) := by decide +kernel
theorem dX8_bits_20 : decode cX8_bits 20 = .ok (.if_icmp .ne 15, 3) := by decide +kernel
theorem dX8_bits_23 : decode cX8_bits 23 = .ok (.aload_n 0, 1) := by decide +kernel
theorem dX8_bits_24 : decode cX8_bits 24 = .ok (.getfield 87, 3) := by decide +kernel
theorem dX8_bits_27 : decode cX8_bits 27 = .ok (.d2f, 1) := by decide +kernel
theorem dX8_bits_28 : decode cX8_bits 28 = .ok (.invokestatic 91, 3) := by decide +kernel
theorem dX8_bits_31 : decode cX8_bits 31 = .ok (.i2l, 1) := by decide +kernel
theorem dX8_bits_32 : decode cX8_bits 32 = .ok (.goto 10, 3) := by decide +kernel
theorem dX8_bits_35 : decode cX8_bits 35 = .ok (.aload_n 0, 1) := by decide +kernel
theorem dX8_bits_36 : decode cX8_bits 36 = .ok (.getfield 87, 3) := by decide +kernel
theorem dX8_bits_39 : decode cX8_bits 39 = .ok (.invokestatic 97, 3) := by decide +kernel
theorem dX8_bits_42 : decode cX8_bits 42 = .ok (.lreturn, 1) := by decide +kernel
set_option maxRecDepth 20000 in
theorem ggX8_holdBits_X8_hold : GoodIn wsX8_holdBits wsX8_hold := goodIn_r _ [13, 14, 15, 16, 17, 18, 19, 20, 21, 22, 23, 24, 25, 26, 27, 28, 29, 30, 31, 32, 33, 34, 35, 36, 37, 38, 39, 40, 41, 42] (by decide +kernel) (by decide +kernel)
set_option maxRecDepth 20000 in
theorem gX8_holdBits_X8_hold : GoodIn wsX8_holdBits (wsV RX8 101 RX8 yX8_hold wsX8_hold) := goodIn_app (goodIn_of _ (by decide +kernel)) ggX8_holdBits_X8_hold
theorem dX8_holdBits_0 : decode cX8_holdBits 0 = .ok (.iload_n 1, 1) := by decide +kernel
theorem dX8_holdBits_1 : decode cX8_holdBits 1 = .ok (.iconst 2, 1) := by decide +kernel
theorem dX8_holdBits_2 : decode cX8_holdBits 2 = .ok (.if_icmp .ge 23, 3) := by decide +kernel
theorem dX8_holdBits_5 : decode cX8_holdBits 5 = .ok (.aload_n 0, 1) := by decide +kernel
theorem dX8_holdBits_6 : decode cX8_holdBits 6 = .ok (.iload_n 1, 1) := by decide +kernel
theorem dX8_holdBits_7 : decode cX8_holdBits 7 = .ok (.iload_n 1, 1) := by decide +kernel
theorem dX8_holdBits_8 : decode cX8_holdBits 8 = .ok (.ifCond .ne 9, 3) := by decide +kernel
theorem dX8_holdBits_11 : decode cX8_holdBits 11 = .ok (.lload_n 2, 1) := by decide +kernel
theorem dX8_holdBits_12 : decode cX8_holdBits 12 = .ok (.l2i, 1) := by decide +kernel
theorem dX8_holdBits_13 : decode cX8_holdBits 13 = .ok (.i2l, 1) := by decide +kernel
theorem dX8_holdBits_14 : decode cX8_holdBits 14 = .ok (.goto 4, 3) := by decide +kernel
theorem dX8_holdBits_17 : decode cX8_holdBits 17 = .ok (.lload_n 2, 1) := by decide +kernel
theorem dX8_holdBits_18 : decode cX8_holdBits 18 = .ok (.dconst 0, 1) := by decide +kernel
theorem dX8_holdBits_19 : decode cX8_holdBits 19 = .ok (.invokevirtual 101, 3) := by decide +kernel
theorem dX8_holdBits_22 : decode cX8_holdBits 22 = .ok (.goto 27, 3) := by decide +kernel
theorem dX8_holdBits_25 : decode cX8_holdBits 25 = .ok (.aload_n 0, 1) := by decide +kernel
theorem dX8_holdBits_26 : decode cX8_holdBits 26 = .ok (.iload_n 1, 1) := by decide +kernel
theorem dX8_holdBits_27 : decode cX8_holdBits 27 = .ok (.lconst 0, 1) := by decide +kernel
theorem dX8_holdBits_28 : decode cX8_holdBits 28 = .ok (.iload_n 1, 1) := by decide +kernel
theorem dX8_holdBits_29 : decode cX8_holdBits 29 = .ok (.iconst 2, 1) := by decide +kernel
theorem dX8_holdBits_30 : decode cX8_holdBits 30 = .ok (.if_icmp .ne 12, 3) := by decide +kernel
theorem dX8_holdBits_33 : decode cX8_holdBits 33 = .ok (.lload_n 2, 1) := by decide +kernel
theorem dX8_holdBits_34 : decode cX8_holdBits 34 = .ok (.l2i, 1) := by decide +kernel
theorem dX8_holdBits_35 : decode cX8_holdBits 35 = .ok (.invokestatic 105, 3) := by decide +kernel
theorem dX8_holdBits_38 : decode cX8_holdBits 38 = .ok (.f2d, 1) := by decide +kernel
theorem dX8_holdBits_39 : decode cX8_holdBits 39 = .ok (.goto 7, 3) := by decide +kernel
theorem dX8_holdBits_42 : decode cX8_holdBits 42 = .ok (.lload_n 2, 1) := by decide +kernel
theorem dX8_holdBits_43 : decode cX8_holdBits 43 = .ok (.invokestatic 109, 3) := by decide +kernel
theorem dX8_holdBits_46 : decode cX8_holdBits 46 = .ok (.invokevirtual 101, 3) := by decide +kernel
theorem dX8_holdBits_49 : decode cX8_holdBits 49 = .ok (.return_, 1) := by decide +kernel
theorem dX8_narrowed_0 : decode cX8_narrowed 0 = .ok (.iload_n 0, 1) := by decide +kernel
theorem dX8_narrowed_1 : decode cX8_narrowed 1 = .ok (.iconst 2, 1) := by decide +kernel
theorem dX8_narrowed_2 : decode cX8_narrowed 2 = .ok (.if_icmp .ne 9, 3) := by decide +kernel
theorem dX8_narrowed_5 : decode cX8_narrowed 5 = .ok (.dload_n 1, 1) := by decide +kernel
theorem dX8_narrowed_6 : decode cX8_narrowed 6 = .ok (.d2f, 1) := by decide +kernel
theorem dX8_narrowed_7 : decode cX8_narrowed 7 = .ok (.f2d, 1) := by decide +kernel
theorem dX8_narrowed_8 : decode cX8_narrowed 8 = .ok (.goto 4, 3) := by decide +kernel
theorem dX8_narrowed_11 : decode cX8_narrowed 11 = .ok (.dload_n 1, 1) := by decide +kernel
theorem dX8_narrowed_12 : decode cX8_narrowed 12 = .ok (.dreturn, 1) := by decide +kernel
set_option maxRecDepth 20000 in
theorem ggX8_isWheel_X8_isIn : GoodIn wsX8_isWheel wsX8_isIn := goodIn_r _ [5] (by decide +kernel) (by decide +kernel)
set_option maxRecDepth 20000 in
theorem gX8_isWheel_X8_isIn : GoodIn wsX8_isWheel (va_wsS RX8 116 yX8_isIn wsX8_isIn) := goodIn_app (goodIn_of _ (by decide +kernel)) ggX8_isWheel_X8_isIn
theorem dX8_isWheel_0 : decode cX8_isWheel 0 = .ok (.iload_n 1, 1) := by decide +kernel
theorem dX8_isWheel_1 : decode cX8_isWheel 1 = .ok (.iconst 0, 1) := by decide +kernel
theorem dX8_isWheel_2 : decode cX8_isWheel 2 = .ok (.aload_n 0, 1) := by decide +kernel
theorem dX8_isWheel_3 : decode cX8_isWheel 3 = .ok (.getfield 113, 3) := by decide +kernel
theorem dX8_isWheel_6 : decode cX8_isWheel 6 = .ok (.iconst 1, 1) := by decide +kernel
theorem dX8_isWheel_7 : decode cX8_isWheel 7 = .ok (.isub, 1) := by decide +kernel
theorem dX8_isWheel_8 : decode cX8_isWheel 8 = .ok (.invokestatic 116, 3) := by decide +kernel
theorem dX8_isWheel_11 : decode cX8_isWheel 11 = .ok (.ireturn, 1) := by decide +kernel
set_option maxRecDepth 20000 in
theorem ggX8_wheel_X8_isIn : GoodIn wsX8_wheel wsX8_isIn := goodIn_r _ [13] (by decide +kernel) (by decide +kernel)
set_option maxRecDepth 20000 in
theorem gX8_wheel_X8_isIn : GoodIn wsX8_wheel (va_wsS RX8 116 yX8_isIn wsX8_isIn) := goodIn_app (goodIn_of _ (by decide +kernel)) ggX8_wheel_X8_isIn
set_option maxRecDepth 20000 in
theorem ggX8_wheel_X8_isNumber : GoodIn wsX8_wheel wsX8_isNumber := goodIn_r _ [16, 17, 18] (by decide +kernel) (by decide +kernel)
set_option maxRecDepth 20000 in
theorem gX8_wheel_X8_isNumber : GoodIn wsX8_wheel (va_wsS RX8 120 yX8_isNumber wsX8_isNumber) := goodIn_app (goodIn_of _ (by decide +kernel)) ggX8_wheel_X8_isNumber
set_option maxRecDepth 20000 in
theorem ggX8_wheel_X8_refuse : GoodIn wsX8_wheel wsX8_refuse := goodIn_r _ [22, 1, 23, 27, 28, 29, 30, 31, 32, 33, 34, 35, 36, 37, 38, 39, 40, 41, 42, 43, 44, 45, 46, 47, 48, 49, 50, 51, 52] (by decide +kernel) (by decide +kernel)
set_option maxRecDepth 20000 in
theorem gX8_wheel_X8_refuse : GoodIn wsX8_wheel (wsV RX8 124 RX8 yX8_refuse wsX8_refuse) := goodIn_app (goodIn_of _ (by decide +kernel)) ggX8_wheel_X8_refuse
set_option maxRecDepth 20000 in
theorem ggX8_wheel_X8_narrowed : GoodIn wsX8_wheel wsX8_narrowed := goodIn_r _ [26] (by decide +kernel) (by decide +kernel)
set_option maxRecDepth 20000 in
theorem gX8_wheel_X8_narrowed : GoodIn wsX8_wheel (va_wsS RX8 128 yX8_narrowed wsX8_narrowed) := goodIn_app (goodIn_of _ (by decide +kernel)) ggX8_wheel_X8_narrowed
theorem dX8_wheel_0 : decode cX8_wheel 0 = .ok (.aload_n 0, 1) := by decide +kernel
theorem dX8_wheel_1 : decode cX8_wheel 1 = .ok (.iconst 0, 1) := by decide +kernel
theorem dX8_wheel_2 : decode cX8_wheel 2 = .ok (.putfield 64, 3) := by decide +kernel
theorem dX8_wheel_5 : decode cX8_wheel 5 = .ok (.iload_n 1, 1) := by decide +kernel
theorem dX8_wheel_6 : decode cX8_wheel 6 = .ok (.iconst 2, 1) := by decide +kernel
theorem dX8_wheel_7 : decode cX8_wheel 7 = .ok (.iconst 3, 1) := by decide +kernel
theorem dX8_wheel_8 : decode cX8_wheel 8 = .ok (.invokestatic 116, 3) := by decide +kernel
theorem dX8_wheel_11 : decode cX8_wheel 11 = .ok (.ifCond .eq 10, 3) := by decide +kernel
theorem dX8_wheel_14 : decode cX8_wheel 14 = .ok (.lload_n 2, 1) := by decide +kernel
theorem dX8_wheel_15 : decode cX8_wheel 15 = .ok (.invokestatic 120, 3) := by decide +kernel
theorem dX8_wheel_18 : decode cX8_wheel 18 = .ok (.ifCond .ne 10, 3) := by decide +kernel
theorem dX8_wheel_21 : decode cX8_wheel 21 = .ok (.aload_n 0, 1) := by decide +kernel
theorem dX8_wheel_22 : decode cX8_wheel 22 = .ok (.bipush (-2), 2) := by decide +kernel
theorem dX8_wheel_24 : decode cX8_wheel 24 = .ok (.invokevirtual 124, 3) := by decide +kernel
theorem dX8_wheel_27 : decode cX8_wheel 27 = .ok (.ireturn, 1) := by decide +kernel
theorem dX8_wheel_28 : decode cX8_wheel 28 = .ok (.iload_n 1, 1) := by decide +kernel
theorem dX8_wheel_29 : decode cX8_wheel 29 = .ok (.lload_n 2, 1) := by decide +kernel
theorem dX8_wheel_30 : decode cX8_wheel 30 = .ok (.invokestatic 109, 3) := by decide +kernel
theorem dX8_wheel_33 : decode cX8_wheel 33 = .ok (.invokestatic 128, 3) := by decide +kernel
theorem dX8_wheel_36 : decode cX8_wheel 36 = .ok (.dstore 4, 2) := by decide +kernel
theorem dX8_wheel_38 : decode cX8_wheel 38 = .ok (.dload 4, 2) := by decide +kernel
theorem dX8_wheel_40 : decode cX8_wheel 40 = .ok (.dconst 0, 1) := by decide +kernel
theorem dX8_wheel_41 : decode cX8_wheel 41 = .ok (.dcmp .l, 1) := by decide +kernel
theorem dX8_wheel_42 : decode cX8_wheel 42 = .ok (.ifCond .ne 10, 3) := by decide +kernel
theorem dX8_wheel_45 : decode cX8_wheel 45 = .ok (.aload_n 0, 1) := by decide +kernel
theorem dX8_wheel_46 : decode cX8_wheel 46 = .ok (.bipush (-2), 2) := by decide +kernel
theorem dX8_wheel_48 : decode cX8_wheel 48 = .ok (.invokevirtual 124, 3) := by decide +kernel
theorem dX8_wheel_51 : decode cX8_wheel 51 = .ok (.ireturn, 1) := by decide +kernel
theorem dX8_wheel_52 : decode cX8_wheel 52 = .ok (.aload_n 0, 1) := by decide +kernel
theorem dX8_wheel_53 : decode cX8_wheel 53 = .ok (.getfield 113, 3) := by decide +kernel
theorem dX8_wheel_56 : decode cX8_wheel 56 = .ok (.bipush 10, 2) := by decide +kernel
theorem dX8_wheel_58 : decode cX8_wheel 58 = .ok (.if_icmp .ne 10, 3) := by decide +kernel
theorem dX8_wheel_61 : decode cX8_wheel 61 = .ok (.aload_n 0, 1) := by decide +kernel
theorem dX8_wheel_62 : decode cX8_wheel 62 = .ok (.bipush (-3), 2) := by decide +kernel
theorem dX8_wheel_64 : decode cX8_wheel 64 = .ok (.invokevirtual 124, 3) := by decide +kernel
theorem dX8_wheel_67 : decode cX8_wheel 67 = .ok (.ireturn, 1) := by decide +kernel
theorem dX8_wheel_68 : decode cX8_wheel 68 = .ok (.aload_n 0, 1) := by decide +kernel
theorem dX8_wheel_69 : decode cX8_wheel 69 = .ok (.getfield 13, 3) := by decide +kernel
theorem dX8_wheel_72 : decode cX8_wheel 72 = .ok (.aload_n 0, 1) := by decide +kernel
theorem dX8_wheel_73 : decode cX8_wheel 73 = .ok (.getfield 113, 3) := by decide +kernel
theorem dX8_wheel_76 : decode cX8_wheel 76 = .ok (.iload_n 1, 1) := by decide +kernel
theorem dX8_wheel_77 : decode cX8_wheel 77 = .ok (.iastore, 1) := by decide +kernel
theorem dX8_wheel_78 : decode cX8_wheel 78 = .ok (.aload_n 0, 1) := by decide +kernel
theorem dX8_wheel_79 : decode cX8_wheel 79 = .ok (.getfield 16, 3) := by decide +kernel
theorem dX8_wheel_82 : decode cX8_wheel 82 = .ok (.aload_n 0, 1) := by decide +kernel
theorem dX8_wheel_83 : decode cX8_wheel 83 = .ok (.getfield 113, 3) := by decide +kernel
theorem dX8_wheel_86 : decode cX8_wheel 86 = .ok (.dload 4, 2) := by decide +kernel
theorem dX8_wheel_88 : decode cX8_wheel 88 = .ok (.dastore, 1) := by decide +kernel
theorem dX8_wheel_89 : decode cX8_wheel 89 = .ok (.aload_n 0, 1) := by decide +kernel
theorem dX8_wheel_90 : decode cX8_wheel 90 = .ok (.getfield 20, 3) := by decide +kernel
theorem dX8_wheel_93 : decode cX8_wheel 93 = .ok (.aload_n 0, 1) := by decide +kernel
theorem dX8_wheel_94 : decode cX8_wheel 94 = .ok (.getfield 113, 3) := by decide +kernel
theorem dX8_wheel_97 : decode cX8_wheel 97 = .ok (.dconst 0, 1) := by decide +kernel
theorem dX8_wheel_98 : decode cX8_wheel 98 = .ok (.dastore, 1) := by decide +kernel
theorem dX8_wheel_99 : decode cX8_wheel 99 = .ok (.aload_n 0, 1) := by decide +kernel
theorem dX8_wheel_100 : decode cX8_wheel 100 = .ok (.dup, 1) := by decide +kernel
theorem dX8_wheel_101 : decode cX8_wheel 101 = .ok (.getfield 113, 3) := by decide +kernel
theorem dX8_wheel_104 : decode cX8_wheel 104 = .ok (.iconst 1, 1) := by decide +kernel
theorem dX8_wheel_105 : decode cX8_wheel 105 = .ok (.iadd, 1) := by decide +kernel
theorem dX8_wheel_106 : decode cX8_wheel 106 = .ok (.putfield 113, 3) := by decide +kernel
theorem dX8_wheel_109 : decode cX8_wheel 109 = .ok (.aload_n 0, 1) := by decide +kernel
theorem dX8_wheel_110 : decode cX8_wheel 110 = .ok (.getfield 113, 3) := by decide +kernel
theorem dX8_wheel_113 : decode cX8_wheel 113 = .ok (.iconst 1, 1) := by decide +kernel
theorem dX8_wheel_114 : decode cX8_wheel 114 = .ok (.isub, 1) := by decide +kernel
theorem dX8_wheel_115 : decode cX8_wheel 115 = .ok (.ireturn, 1) := by decide +kernel
set_option maxRecDepth 20000 in
theorem ggX8_turn_X8_isWheel : GoodIn wsX8_turn wsX8_isWheel := goodIn_r _ [13, 14, 15, 16, 12, 17, 36, 37, 38, 39, 40, 41, 42, 43, 44, 45, 46, 47, 48, 49, 50, 51, 52, 53, 54, 55, 56, 57, 58, 59, 60, 61] (by decide +kernel) (by decide +kernel)
set_option maxRecDepth 20000 in
theorem gX8_turn_X8_isWheel : GoodIn wsX8_turn (wsV RX8 132 RX8 yX8_isWheel wsX8_isWheel) := goodIn_app (goodIn_of _ (by decide +kernel)) ggX8_turn_X8_isWheel
set_option maxRecDepth 20000 in
theorem ggX8_turn_X8_isNumber : GoodIn wsX8_turn wsX8_isNumber := goodIn_r _ [20, 21, 22] (by decide +kernel) (by decide +kernel)
set_option maxRecDepth 20000 in
theorem gX8_turn_X8_isNumber : GoodIn wsX8_turn (va_wsS RX8 120 yX8_isNumber wsX8_isNumber) := goodIn_app (goodIn_of _ (by decide +kernel)) ggX8_turn_X8_isNumber
set_option maxRecDepth 20000 in
theorem ggX8_turn_X8_narrowed : GoodIn wsX8_turn wsX8_narrowed := goodIn_r _ [25] (by decide +kernel) (by decide +kernel)
set_option maxRecDepth 20000 in
theorem gX8_turn_X8_narrowed : GoodIn wsX8_turn (va_wsS RX8 128 yX8_narrowed wsX8_narrowed) := goodIn_app (goodIn_of _ (by decide +kernel)) ggX8_turn_X8_narrowed
set_option maxRecDepth 20000 in
theorem ggX8_turn_X8_isEndless : GoodIn wsX8_turn wsX8_isEndless := goodIn_r _ [28, 29, 30] (by decide +kernel) (by decide +kernel)
set_option maxRecDepth 20000 in
theorem gX8_turn_X8_isEndless : GoodIn wsX8_turn (va_wsS RX8 136 yX8_isEndless wsX8_isEndless) := goodIn_app (goodIn_of _ (by decide +kernel)) ggX8_turn_X8_isEndless
set_option maxRecDepth 20000 in
theorem ggX8_turn_X8_refuse : GoodIn wsX8_turn wsX8_refuse := goodIn_r _ [34, 1, 35, 36, 37, 38, 39, 40, 41, 42, 43, 44, 45, 46, 47, 48, 49, 50, 51, 52, 53, 54, 55, 56, 57, 58, 59, 60, 61] (by decide +kernel) (by decide +kernel)
set_option maxRecDepth 20000 in
theorem gX8_turn_X8_refuse : GoodIn wsX8_turn (wsV RX8 124 RX8 yX8_refuse wsX8_refuse) := goodIn_app (goodIn_of _ (by decide +kernel)) ggX8_turn_X8_refuse
theorem dX8_turn_0 : decode cX8_turn 0 = .ok (.aload_n 0, 1) := by decide +kernel
theorem dX8_turn_1 : decode cX8_turn 1 = .ok (.iconst 0, 1) := by decide +kernel
theorem dX8_turn_2 : decode cX8_turn 2 = .ok (.putfield 64, 3) := by decide +kernel
theorem dX8_turn_5 : decode cX8_turn 5 = .ok (.aload_n 0, 1) := by decide +kernel
theorem dX8_turn_6 : decode cX8_turn 6 = .ok (.iload_n 1, 1) := by decide +kernel
theorem dX8_turn_7 : decode cX8_turn 7 = .ok (.invokevirtual 132, 3) := by decide +kernel
theorem dX8_turn_10 : decode cX8_turn 10 = .ok (.ifCond .eq 10, 3) := by decide +kernel
theorem dX8_turn_13 : decode cX8_turn 13 = .ok (.lload_n 2, 1) := by decide +kernel
theorem dX8_turn_14 : decode cX8_turn 14 = .ok (.invokestatic 120, 3) := by decide +kernel
theorem dX8_turn_17 : decode cX8_turn 17 = .ok (.ifCond .ne 8, 3) := by decide +kernel
theorem dX8_turn_20 : decode cX8_turn 20 = .ok (.bipush (-2), 2) := by decide +kernel
theorem dX8_turn_22 : decode cX8_turn 22 = .ok (.goto 4, 3) := by decide +kernel
theorem dX8_turn_25 : decode cX8_turn 25 = .ok (.iconst 0, 1) := by decide +kernel
theorem dX8_turn_26 : decode cX8_turn 26 = .ok (.istore 4, 2) := by decide +kernel
theorem dX8_turn_28 : decode cX8_turn 28 = .ok (.iload 4, 2) := by decide +kernel
theorem dX8_turn_30 : decode cX8_turn 30 = .ok (.ifCond .ne 94, 3) := by decide +kernel
theorem dX8_turn_33 : decode cX8_turn 33 = .ok (.aload_n 0, 1) := by decide +kernel
theorem dX8_turn_34 : decode cX8_turn 34 = .ok (.getfield 13, 3) := by decide +kernel
theorem dX8_turn_37 : decode cX8_turn 37 = .ok (.iload_n 1, 1) := by decide +kernel
theorem dX8_turn_38 : decode cX8_turn 38 = .ok (.iaload, 1) := by decide +kernel
theorem dX8_turn_39 : decode cX8_turn 39 = .ok (.lload_n 2, 1) := by decide +kernel
theorem dX8_turn_40 : decode cX8_turn 40 = .ok (.invokestatic 109, 3) := by decide +kernel
theorem dX8_turn_43 : decode cX8_turn 43 = .ok (.invokestatic 128, 3) := by decide +kernel
theorem dX8_turn_46 : decode cX8_turn 46 = .ok (.dstore 5, 2) := by decide +kernel
theorem dX8_turn_48 : decode cX8_turn 48 = .ok (.aload_n 0, 1) := by decide +kernel
theorem dX8_turn_49 : decode cX8_turn 49 = .ok (.getfield 13, 3) := by decide +kernel
theorem dX8_turn_52 : decode cX8_turn 52 = .ok (.iload_n 1, 1) := by decide +kernel
theorem dX8_turn_53 : decode cX8_turn 53 = .ok (.iaload, 1) := by decide +kernel
theorem dX8_turn_54 : decode cX8_turn 54 = .ok (.aload_n 0, 1) := by decide +kernel
theorem dX8_turn_55 : decode cX8_turn 55 = .ok (.getfield 20, 3) := by decide +kernel
theorem dX8_turn_58 : decode cX8_turn 58 = .ok (.iload_n 1, 1) := by decide +kernel
theorem dX8_turn_59 : decode cX8_turn 59 = .ok (.daload, 1) := by decide +kernel
theorem dX8_turn_60 : decode cX8_turn 60 = .ok (.dload 5, 2) := by decide +kernel
theorem dX8_turn_62 : decode cX8_turn 62 = .ok (.dadd, 1) := by decide +kernel
theorem dX8_turn_63 : decode cX8_turn 63 = .ok (.invokestatic 128, 3) := by decide +kernel
theorem dX8_turn_66 : decode cX8_turn 66 = .ok (.dstore 7, 2) := by decide +kernel
theorem dX8_turn_68 : decode cX8_turn 68 = .ok (.dload 7, 2) := by decide +kernel
theorem dX8_turn_70 : decode cX8_turn 70 = .ok (.invokestatic 136, 3) := by decide +kernel
theorem dX8_turn_73 : decode cX8_turn 73 = .ok (.ifCond .eq 8, 3) := by decide +kernel
theorem dX8_turn_76 : decode cX8_turn 76 = .ok (.bipush (-4), 2) := by decide +kernel
theorem dX8_turn_78 : decode cX8_turn 78 = .ok (.goto 4, 3) := by decide +kernel
theorem dX8_turn_81 : decode cX8_turn 81 = .ok (.iconst 0, 1) := by decide +kernel
theorem dX8_turn_82 : decode cX8_turn 82 = .ok (.istore 4, 2) := by decide +kernel
theorem dX8_turn_84 : decode cX8_turn 84 = .ok (.iload 4, 2) := by decide +kernel
theorem dX8_turn_86 : decode cX8_turn 86 = .ok (.ifCond .ne 38, 3) := by decide +kernel
theorem dX8_turn_89 : decode cX8_turn 89 = .ok (.aload_n 0, 1) := by decide +kernel
theorem dX8_turn_90 : decode cX8_turn 90 = .ok (.getfield 20, 3) := by decide +kernel
theorem dX8_turn_93 : decode cX8_turn 93 = .ok (.iload_n 1, 1) := by decide +kernel
theorem dX8_turn_94 : decode cX8_turn 94 = .ok (.dload 7, 2) := by decide +kernel
theorem dX8_turn_96 : decode cX8_turn 96 = .ok (.aload_n 0, 1) := by decide +kernel
theorem dX8_turn_97 : decode cX8_turn 97 = .ok (.getfield 16, 3) := by decide +kernel
theorem dX8_turn_100 : decode cX8_turn 100 = .ok (.iload_n 1, 1) := by decide +kernel
theorem dX8_turn_101 : decode cX8_turn 101 = .ok (.daload, 1) := by decide +kernel
theorem dX8_turn_102 : decode cX8_turn 102 = .ok (.drem, 1) := by decide +kernel
theorem dX8_turn_103 : decode cX8_turn 103 = .ok (.dastore, 1) := by decide +kernel
theorem dX8_turn_104 : decode cX8_turn 104 = .ok (.aload_n 0, 1) := by decide +kernel
theorem dX8_turn_105 : decode cX8_turn 105 = .ok (.getfield 13, 3) := by decide +kernel
theorem dX8_turn_108 : decode cX8_turn 108 = .ok (.iload_n 1, 1) := by decide +kernel
theorem dX8_turn_109 : decode cX8_turn 109 = .ok (.iaload, 1) := by decide +kernel
theorem dX8_turn_110 : decode cX8_turn 110 = .ok (.dload 7, 2) := by decide +kernel
theorem dX8_turn_112 : decode cX8_turn 112 = .ok (.aload_n 0, 1) := by decide +kernel
theorem dX8_turn_113 : decode cX8_turn 113 = .ok (.getfield 16, 3) := by decide +kernel
theorem dX8_turn_116 : decode cX8_turn 116 = .ok (.iload_n 1, 1) := by decide +kernel
theorem dX8_turn_117 : decode cX8_turn 117 = .ok (.daload, 1) := by decide +kernel
theorem dX8_turn_118 : decode cX8_turn 118 = .ok (.ddiv, 1) := by decide +kernel
theorem dX8_turn_119 : decode cX8_turn 119 = .ok (.invokestatic 128, 3) := by decide +kernel
theorem dX8_turn_122 : decode cX8_turn 122 = .ok (.d2i, 1) := by decide +kernel
theorem dX8_turn_123 : decode cX8_turn 123 = .ok (.ireturn, 1) := by decide +kernel
theorem dX8_turn_124 : decode cX8_turn 124 = .ok (.aload_n 0, 1) := by decide +kernel
theorem dX8_turn_125 : decode cX8_turn 125 = .ok (.iload 4, 2) := by decide +kernel
theorem dX8_turn_127 : decode cX8_turn 127 = .ok (.invokevirtual 124, 3) := by decide +kernel
theorem dX8_turn_130 : decode cX8_turn 130 = .ok (.istore 4, 2) := by decide +kernel
theorem dX8_turn_132 : decode cX8_turn 132 = .ok (.iconst 0, 1) := by decide +kernel
theorem dX8_turn_133 : decode cX8_turn 133 = .ok (.ireturn, 1) := by decide +kernel
set_option maxRecDepth 20000 in
theorem ggX8_wheelOf_X8_isWheel : GoodIn wsX8_wheelOf wsX8_isWheel := goodIn_r _ [9, 10, 11, 12, 8, 13, 49, 50, 51, 52, 53, 54, 55, 56, 57, 58, 59, 60, 61, 62, 63, 64, 65, 66, 67, 68, 69, 70, 71, 72, 73, 74] (by decide +kernel) (by decide +kernel)
set_option maxRecDepth 20000 in
theorem gX8_wheelOf_X8_isWheel : GoodIn wsX8_wheelOf (wsV RX8 132 RX8 yX8_isWheel wsX8_isWheel) := goodIn_app (goodIn_of _ (by decide +kernel)) ggX8_wheelOf_X8_isWheel
set_option maxRecDepth 20000 in
theorem ggX8_wheelOf_X8_isIn : GoodIn wsX8_wheelOf wsX8_isIn := goodIn_r _ [13] (by decide +kernel) (by decide +kernel)
set_option maxRecDepth 20000 in
theorem gX8_wheelOf_X8_isIn : GoodIn wsX8_wheelOf (va_wsS RX8 116 yX8_isIn wsX8_isIn) := goodIn_app (goodIn_of _ (by decide +kernel)) ggX8_wheelOf_X8_isIn
set_option maxRecDepth 20000 in
theorem ggX8_wheelOf_X8_hold : GoodIn wsX8_wheelOf wsX8_hold := goodIn_r _ [17, 18, 19, 20, 49, 50, 51, 52, 53, 54, 55, 56, 57, 58, 59, 60, 61, 62, 63, 64, 65, 66, 67, 68, 69, 70, 71, 72, 73, 74] (by decide +kernel) (by decide +kernel)
set_option maxRecDepth 20000 in
theorem gX8_wheelOf_X8_hold : GoodIn wsX8_wheelOf (wsV RX8 101 RX8 yX8_hold wsX8_hold) := goodIn_app (goodIn_of _ (by decide +kernel)) ggX8_wheelOf_X8_hold
set_option maxRecDepth 20000 in
theorem ggX8_wheelOf_X8_bits : GoodIn wsX8_wheelOf wsX8_bits := goodIn_r _ [24, 18, 19, 20, 25, 26, 27, 28, 29, 30, 31, 32, 33, 34, 35, 36, 37, 38, 39, 40, 41, 42, 43, 44, 45, 46, 47, 48, 49, 50, 51, 52, 53, 54, 55, 56, 57, 58, 59, 60, 61, 62, 63, 64, 65, 66, 67, 68, 69, 70, 71, 72, 73, 74] (by decide +kernel) (by decide +kernel)
set_option maxRecDepth 20000 in
theorem gX8_wheelOf_X8_bits : GoodIn wsX8_wheelOf (wsV RX8 140 RX8 yX8_bits wsX8_bits) := goodIn_app (goodIn_of _ (by decide +kernel)) ggX8_wheelOf_X8_bits
theorem dX8_wheelOf_0 : decode cX8_wheelOf 0 = .ok (.aload_n 0, 1) := by decide +kernel
theorem dX8_wheelOf_1 : decode cX8_wheelOf 1 = .ok (.iconst 0, 1) := by decide +kernel
theorem dX8_wheelOf_2 : decode cX8_wheelOf 2 = .ok (.putfield 64, 3) := by decide +kernel
theorem dX8_wheelOf_5 : decode cX8_wheelOf 5 = .ok (.aload_n 0, 1) := by decide +kernel
theorem dX8_wheelOf_6 : decode cX8_wheelOf 6 = .ok (.iload_n 1, 1) := by decide +kernel
theorem dX8_wheelOf_7 : decode cX8_wheelOf 7 = .ok (.invokevirtual 132, 3) := by decide +kernel
theorem dX8_wheelOf_10 : decode cX8_wheelOf 10 = .ok (.ifCond .eq 12, 3) := by decide +kernel
theorem dX8_wheelOf_13 : decode cX8_wheelOf 13 = .ok (.iload_n 2, 1) := by decide +kernel
theorem dX8_wheelOf_14 : decode cX8_wheelOf 14 = .ok (.iconst 0, 1) := by decide +kernel
theorem dX8_wheelOf_15 : decode cX8_wheelOf 15 = .ok (.iconst 1, 1) := by decide +kernel
theorem dX8_wheelOf_16 : decode cX8_wheelOf 16 = .ok (.invokestatic 116, 3) := by decide +kernel
theorem dX8_wheelOf_19 : decode cX8_wheelOf 19 = .ok (.ifCond .ne 11, 3) := by decide +kernel
theorem dX8_wheelOf_22 : decode cX8_wheelOf 22 = .ok (.aload_n 0, 1) := by decide +kernel
theorem dX8_wheelOf_23 : decode cX8_wheelOf 23 = .ok (.bipush (-2), 2) := by decide +kernel
theorem dX8_wheelOf_25 : decode cX8_wheelOf 25 = .ok (.putfield 64, 3) := by decide +kernel
theorem dX8_wheelOf_28 : decode cX8_wheelOf 28 = .ok (.lconst 0, 1) := by decide +kernel
theorem dX8_wheelOf_29 : decode cX8_wheelOf 29 = .ok (.lreturn, 1) := by decide +kernel
theorem dX8_wheelOf_30 : decode cX8_wheelOf 30 = .ok (.aload_n 0, 1) := by decide +kernel
theorem dX8_wheelOf_31 : decode cX8_wheelOf 31 = .ok (.aload_n 0, 1) := by decide +kernel
theorem dX8_wheelOf_32 : decode cX8_wheelOf 32 = .ok (.getfield 13, 3) := by decide +kernel
theorem dX8_wheelOf_35 : decode cX8_wheelOf 35 = .ok (.iload_n 1, 1) := by decide +kernel
theorem dX8_wheelOf_36 : decode cX8_wheelOf 36 = .ok (.iaload, 1) := by decide +kernel
theorem dX8_wheelOf_37 : decode cX8_wheelOf 37 = .ok (.lconst 0, 1) := by decide +kernel
theorem dX8_wheelOf_38 : decode cX8_wheelOf 38 = .ok (.iload_n 2, 1) := by decide +kernel
theorem dX8_wheelOf_39 : decode cX8_wheelOf 39 = .ok (.ifCond .ne 12, 3) := by decide +kernel
theorem dX8_wheelOf_42 : decode cX8_wheelOf 42 = .ok (.aload_n 0, 1) := by decide +kernel
theorem dX8_wheelOf_43 : decode cX8_wheelOf 43 = .ok (.getfield 20, 3) := by decide +kernel
theorem dX8_wheelOf_46 : decode cX8_wheelOf 46 = .ok (.iload_n 1, 1) := by decide +kernel
theorem dX8_wheelOf_47 : decode cX8_wheelOf 47 = .ok (.daload, 1) := by decide +kernel
theorem dX8_wheelOf_48 : decode cX8_wheelOf 48 = .ok (.goto 9, 3) := by decide +kernel
theorem dX8_wheelOf_51 : decode cX8_wheelOf 51 = .ok (.aload_n 0, 1) := by decide +kernel
theorem dX8_wheelOf_52 : decode cX8_wheelOf 52 = .ok (.getfield 16, 3) := by decide +kernel
theorem dX8_wheelOf_55 : decode cX8_wheelOf 55 = .ok (.iload_n 1, 1) := by decide +kernel
theorem dX8_wheelOf_56 : decode cX8_wheelOf 56 = .ok (.daload, 1) := by decide +kernel
theorem dX8_wheelOf_57 : decode cX8_wheelOf 57 = .ok (.invokevirtual 101, 3) := by decide +kernel
theorem dX8_wheelOf_60 : decode cX8_wheelOf 60 = .ok (.aload_n 0, 1) := by decide +kernel
theorem dX8_wheelOf_61 : decode cX8_wheelOf 61 = .ok (.invokevirtual 140, 3) := by decide +kernel
theorem dX8_wheelOf_64 : decode cX8_wheelOf 64 = .ok (.lreturn, 1) := by decide +kernel
set_option maxRecDepth 20000 in
theorem ggX8_isRegister_X8_isIn : GoodIn wsX8_isRegister wsX8_isIn := goodIn_r _ [5] (by decide +kernel) (by decide +kernel)
set_option maxRecDepth 20000 in
theorem gX8_isRegister_X8_isIn : GoodIn wsX8_isRegister (va_wsS RX8 116 yX8_isIn wsX8_isIn) := goodIn_app (goodIn_of _ (by decide +kernel)) ggX8_isRegister_X8_isIn
theorem dX8_isRegister_0 : decode cX8_isRegister 0 = .ok (.iload_n 1, 1) := by decide +kernel
theorem dX8_isRegister_1 : decode cX8_isRegister 1 = .ok (.iconst 0, 1) := by decide +kernel
theorem dX8_isRegister_2 : decode cX8_isRegister 2 = .ok (.aload_n 0, 1) := by decide +kernel
theorem dX8_isRegister_3 : decode cX8_isRegister 3 = .ok (.getfield 144, 3) := by decide +kernel
theorem dX8_isRegister_6 : decode cX8_isRegister 6 = .ok (.iconst 1, 1) := by decide +kernel
theorem dX8_isRegister_7 : decode cX8_isRegister 7 = .ok (.isub, 1) := by decide +kernel
theorem dX8_isRegister_8 : decode cX8_isRegister 8 = .ok (.invokestatic 116, 3) := by decide +kernel
theorem dX8_isRegister_11 : decode cX8_isRegister 11 = .ok (.ireturn, 1) := by decide +kernel
set_option maxRecDepth 20000 in
theorem ggX8_isKind_X8_isIn : GoodIn wsX8_isKind wsX8_isIn := goodIn_r _ [4] (by decide +kernel) (by decide +kernel)
set_option maxRecDepth 20000 in
theorem gX8_isKind_X8_isIn : GoodIn wsX8_isKind (va_wsS RX8 116 yX8_isIn wsX8_isIn) := goodIn_app (goodIn_of _ (by decide +kernel)) ggX8_isKind_X8_isIn
theorem dX8_isKind_0 : decode cX8_isKind 0 = .ok (.iload_n 0, 1) := by decide +kernel
theorem dX8_isKind_1 : decode cX8_isKind 1 = .ok (.iconst 0, 1) := by decide +kernel
theorem dX8_isKind_2 : decode cX8_isKind 2 = .ok (.iconst 3, 1) := by decide +kernel
theorem dX8_isKind_3 : decode cX8_isKind 3 = .ok (.invokestatic 116, 3) := by decide +kernel
theorem dX8_isKind_6 : decode cX8_isKind 6 = .ok (.ireturn, 1) := by decide +kernel
set_option maxRecDepth 20000 in
theorem ggX8_register_X8_isKind : GoodIn wsX8_register wsX8_isKind := goodIn_r _ [9, 10, 11, 8, 12] (by decide +kernel) (by decide +kernel)
set_option maxRecDepth 20000 in
theorem gX8_register_X8_isKind : GoodIn wsX8_register (va_wsS RX8 147 yX8_isKind wsX8_isKind) := goodIn_app (goodIn_of _ (by decide +kernel)) ggX8_register_X8_isKind
set_option maxRecDepth 20000 in
theorem ggX8_register_X8_refuse : GoodIn wsX8_register wsX8_refuse := goodIn_r _ [16, 1, 17, 18, 19, 20, 21, 22, 23, 24, 25, 26, 27, 28, 29, 30, 31, 32, 33, 34, 35, 36, 37, 38, 39, 40, 41, 42, 43] (by decide +kernel) (by decide +kernel)
set_option maxRecDepth 20000 in
theorem gX8_register_X8_refuse : GoodIn wsX8_register (wsV RX8 124 RX8 yX8_refuse wsX8_refuse) := goodIn_app (goodIn_of _ (by decide +kernel)) ggX8_register_X8_refuse
theorem dX8_register_0 : decode cX8_register 0 = .ok (.aload_n 0, 1) := by decide +kernel
theorem dX8_register_1 : decode cX8_register 1 = .ok (.iconst 0, 1) := by decide +kernel
theorem dX8_register_2 : decode cX8_register 2 = .ok (.putfield 64, 3) := by decide +kernel
theorem dX8_register_5 : decode cX8_register 5 = .ok (.iload_n 1, 1) := by decide +kernel
theorem dX8_register_6 : decode cX8_register 6 = .ok (.invokestatic 147, 3) := by decide +kernel
theorem dX8_register_9 : decode cX8_register 9 = .ok (.ifCond .ne 10, 3) := by decide +kernel
theorem dX8_register_12 : decode cX8_register 12 = .ok (.aload_n 0, 1) := by decide +kernel
theorem dX8_register_13 : decode cX8_register 13 = .ok (.bipush (-2), 2) := by decide +kernel
theorem dX8_register_15 : decode cX8_register 15 = .ok (.invokevirtual 124, 3) := by decide +kernel
theorem dX8_register_18 : decode cX8_register 18 = .ok (.ireturn, 1) := by decide +kernel
theorem dX8_register_19 : decode cX8_register 19 = .ok (.aload_n 0, 1) := by decide +kernel
theorem dX8_register_20 : decode cX8_register 20 = .ok (.getfield 144, 3) := by decide +kernel
theorem dX8_register_23 : decode cX8_register 23 = .ok (.bipush 16, 2) := by decide +kernel
theorem dX8_register_25 : decode cX8_register 25 = .ok (.if_icmp .ne 10, 3) := by decide +kernel
theorem dX8_register_28 : decode cX8_register 28 = .ok (.aload_n 0, 1) := by decide +kernel
theorem dX8_register_29 : decode cX8_register 29 = .ok (.bipush (-3), 2) := by decide +kernel
theorem dX8_register_31 : decode cX8_register 31 = .ok (.invokevirtual 124, 3) := by decide +kernel
theorem dX8_register_34 : decode cX8_register 34 = .ok (.ireturn, 1) := by decide +kernel
theorem dX8_register_35 : decode cX8_register 35 = .ok (.aload_n 0, 1) := by decide +kernel
theorem dX8_register_36 : decode cX8_register 36 = .ok (.getfield 23, 3) := by decide +kernel
theorem dX8_register_39 : decode cX8_register 39 = .ok (.aload_n 0, 1) := by decide +kernel
theorem dX8_register_40 : decode cX8_register 40 = .ok (.getfield 144, 3) := by decide +kernel
theorem dX8_register_43 : decode cX8_register 43 = .ok (.iload_n 1, 1) := by decide +kernel
theorem dX8_register_44 : decode cX8_register 44 = .ok (.iastore, 1) := by decide +kernel
theorem dX8_register_45 : decode cX8_register 45 = .ok (.aload_n 0, 1) := by decide +kernel
theorem dX8_register_46 : decode cX8_register 46 = .ok (.getfield 26, 3) := by decide +kernel
theorem dX8_register_49 : decode cX8_register 49 = .ok (.aload_n 0, 1) := by decide +kernel
theorem dX8_register_50 : decode cX8_register 50 = .ok (.getfield 144, 3) := by decide +kernel
theorem dX8_register_53 : decode cX8_register 53 = .ok (.lconst 0, 1) := by decide +kernel
theorem dX8_register_54 : decode cX8_register 54 = .ok (.lastore, 1) := by decide +kernel
theorem dX8_register_55 : decode cX8_register 55 = .ok (.aload_n 0, 1) := by decide +kernel
theorem dX8_register_56 : decode cX8_register 56 = .ok (.getfield 30, 3) := by decide +kernel
theorem dX8_register_59 : decode cX8_register 59 = .ok (.aload_n 0, 1) := by decide +kernel
theorem dX8_register_60 : decode cX8_register 60 = .ok (.getfield 144, 3) := by decide +kernel
theorem dX8_register_63 : decode cX8_register 63 = .ok (.dconst 0, 1) := by decide +kernel
theorem dX8_register_64 : decode cX8_register 64 = .ok (.dastore, 1) := by decide +kernel
theorem dX8_register_65 : decode cX8_register 65 = .ok (.aload_n 0, 1) := by decide +kernel
theorem dX8_register_66 : decode cX8_register 66 = .ok (.dup, 1) := by decide +kernel
theorem dX8_register_67 : decode cX8_register 67 = .ok (.getfield 144, 3) := by decide +kernel
theorem dX8_register_70 : decode cX8_register 70 = .ok (.iconst 1, 1) := by decide +kernel
theorem dX8_register_71 : decode cX8_register 71 = .ok (.iadd, 1) := by decide +kernel
theorem dX8_register_72 : decode cX8_register 72 = .ok (.putfield 144, 3) := by decide +kernel
theorem dX8_register_75 : decode cX8_register 75 = .ok (.aload_n 0, 1) := by decide +kernel
theorem dX8_register_76 : decode cX8_register 76 = .ok (.getfield 144, 3) := by decide +kernel
theorem dX8_register_79 : decode cX8_register 79 = .ok (.iconst 1, 1) := by decide +kernel
theorem dX8_register_80 : decode cX8_register 80 = .ok (.isub, 1) := by decide +kernel
theorem dX8_register_81 : decode cX8_register 81 = .ok (.ireturn, 1) := by decide +kernel
set_option maxRecDepth 20000 in
theorem ggX8_open_X8_hold : GoodIn wsX8_open wsX8_hold := goodIn_r _ [8, 9, 10, 11, 12, 13, 14, 15, 16, 17, 18, 19, 20, 21, 22, 23, 24, 25, 26, 27, 28, 29, 30, 31, 32, 33, 34, 35, 36, 37] (by decide +kernel) (by decide +kernel)
set_option maxRecDepth 20000 in
theorem gX8_open_X8_hold : GoodIn wsX8_open (wsV RX8 101 RX8 yX8_hold wsX8_hold) := goodIn_app (goodIn_of _ (by decide +kernel)) ggX8_open_X8_hold
theorem dX8_open_0 : decode cX8_open 0 = .ok (.aload_n 0, 1) := by decide +kernel
theorem dX8_open_1 : decode cX8_open 1 = .ok (.aload_n 0, 1) := by decide +kernel
theorem dX8_open_2 : decode cX8_open 2 = .ok (.getfield 23, 3) := by decide +kernel
theorem dX8_open_5 : decode cX8_open 5 = .ok (.iload_n 1, 1) := by decide +kernel
theorem dX8_open_6 : decode cX8_open 6 = .ok (.iaload, 1) := by decide +kernel
theorem dX8_open_7 : decode cX8_open 7 = .ok (.aload_n 0, 1) := by decide +kernel
theorem dX8_open_8 : decode cX8_open 8 = .ok (.getfield 26, 3) := by decide +kernel
theorem dX8_open_11 : decode cX8_open 11 = .ok (.iload_n 1, 1) := by decide +kernel
theorem dX8_open_12 : decode cX8_open 12 = .ok (.laload, 1) := by decide +kernel
theorem dX8_open_13 : decode cX8_open 13 = .ok (.aload_n 0, 1) := by decide +kernel
theorem dX8_open_14 : decode cX8_open 14 = .ok (.getfield 30, 3) := by decide +kernel
theorem dX8_open_17 : decode cX8_open 17 = .ok (.iload_n 1, 1) := by decide +kernel
theorem dX8_open_18 : decode cX8_open 18 = .ok (.daload, 1) := by decide +kernel
theorem dX8_open_19 : decode cX8_open 19 = .ok (.invokevirtual 101, 3) := by decide +kernel
theorem dX8_open_22 : decode cX8_open 22 = .ok (.return_, 1) := by decide +kernel
set_option maxRecDepth 20000 in
theorem ggX8_store_X8_cast : GoodIn wsX8_store wsX8_cast := goodIn_r _ [10, 11, 3, 5, 12, 13, 14, 15, 16, 17, 18, 19, 20, 21, 22, 23, 24, 25, 26, 27, 28, 29, 30, 31, 32, 33, 34, 35, 36, 37] (by decide +kernel) (by decide +kernel)
set_option maxRecDepth 20000 in
theorem gX8_store_X8_cast : GoodIn wsX8_store (wsV RX8 150 RX8 yX8_cast wsX8_cast) := goodIn_app (goodIn_of _ (by decide +kernel)) ggX8_store_X8_cast
theorem dX8_store_0 : decode cX8_store 0 = .ok (.aload_n 0, 1) := by decide +kernel
theorem dX8_store_1 : decode cX8_store 1 = .ok (.aload_n 0, 1) := by decide +kernel
theorem dX8_store_2 : decode cX8_store 2 = .ok (.getfield 23, 3) := by decide +kernel
theorem dX8_store_5 : decode cX8_store 5 = .ok (.iload_n 1, 1) := by decide +kernel
theorem dX8_store_6 : decode cX8_store 6 = .ok (.iaload, 1) := by decide +kernel
theorem dX8_store_7 : decode cX8_store 7 = .ok (.invokevirtual 150, 3) := by decide +kernel
theorem dX8_store_10 : decode cX8_store 10 = .ok (.aload_n 0, 1) := by decide +kernel
theorem dX8_store_11 : decode cX8_store 11 = .ok (.getfield 26, 3) := by decide +kernel
theorem dX8_store_14 : decode cX8_store 14 = .ok (.iload_n 1, 1) := by decide +kernel
theorem dX8_store_15 : decode cX8_store 15 = .ok (.aload_n 0, 1) := by decide +kernel
theorem dX8_store_16 : decode cX8_store 16 = .ok (.getfield 83, 3) := by decide +kernel
theorem dX8_store_19 : decode cX8_store 19 = .ok (.lastore, 1) := by decide +kernel
theorem dX8_store_20 : decode cX8_store 20 = .ok (.aload_n 0, 1) := by decide +kernel
theorem dX8_store_21 : decode cX8_store 21 = .ok (.getfield 30, 3) := by decide +kernel
theorem dX8_store_24 : decode cX8_store 24 = .ok (.iload_n 1, 1) := by decide +kernel
theorem dX8_store_25 : decode cX8_store 25 = .ok (.aload_n 0, 1) := by decide +kernel
theorem dX8_store_26 : decode cX8_store 26 = .ok (.getfield 87, 3) := by decide +kernel
theorem dX8_store_29 : decode cX8_store 29 = .ok (.dastore, 1) := by decide +kernel
theorem dX8_store_30 : decode cX8_store 30 = .ok (.return_, 1) := by decide +kernel
set_option maxRecDepth 20000 in
theorem ggX8_load_X8_isRegister : GoodIn wsX8_load wsX8_isRegister := goodIn_r _ [6, 7, 8, 9, 5, 10, 59, 60, 61, 62, 63, 64, 65, 66, 67, 68, 69, 70, 71, 72, 73, 74, 75, 76, 77, 78, 79, 80, 81, 82, 83, 84] (by decide +kernel) (by decide +kernel)
set_option maxRecDepth 20000 in
theorem gX8_load_X8_isRegister : GoodIn wsX8_load (wsV RX8 154 RX8 yX8_isRegister wsX8_isRegister) := goodIn_app (goodIn_of _ (by decide +kernel)) ggX8_load_X8_isRegister
set_option maxRecDepth 20000 in
theorem ggX8_load_X8_isKind : GoodIn wsX8_load wsX8_isKind := goodIn_r _ [13, 8, 9, 5, 10] (by decide +kernel) (by decide +kernel)
set_option maxRecDepth 20000 in
theorem gX8_load_X8_isKind : GoodIn wsX8_load (va_wsS RX8 147 yX8_isKind wsX8_isKind) := goodIn_app (goodIn_of _ (by decide +kernel)) ggX8_load_X8_isKind
set_option maxRecDepth 20000 in
theorem ggX8_load_X8_isFloat : GoodIn wsX8_load wsX8_isFloat := goodIn_r _ [16, 17, 18] (by decide +kernel) (by decide +kernel)
set_option maxRecDepth 20000 in
theorem gX8_load_X8_isFloat : GoodIn wsX8_load (va_wsS RX8 157 yX8_isFloat wsX8_isFloat) := goodIn_app (goodIn_of _ (by decide +kernel)) ggX8_load_X8_isFloat
set_option maxRecDepth 20000 in
theorem ggX8_load_X8_isNumber : GoodIn wsX8_load wsX8_isNumber := goodIn_r _ [21, 22, 23] (by decide +kernel) (by decide +kernel)
set_option maxRecDepth 20000 in
theorem gX8_load_X8_isNumber : GoodIn wsX8_load (va_wsS RX8 120 yX8_isNumber wsX8_isNumber) := goodIn_app (goodIn_of _ (by decide +kernel)) ggX8_load_X8_isNumber
set_option maxRecDepth 20000 in
theorem ggX8_load_X8_refuse : GoodIn wsX8_load wsX8_refuse := goodIn_r _ [27, 1, 28, 59, 60, 61, 62, 63, 64, 65, 66, 67, 68, 69, 70, 71, 72, 73, 74, 75, 76, 77, 78, 79, 80, 81, 82, 83, 84] (by decide +kernel) (by decide +kernel)
set_option maxRecDepth 20000 in
theorem gX8_load_X8_refuse : GoodIn wsX8_load (wsV RX8 124 RX8 yX8_refuse wsX8_refuse) := goodIn_app (goodIn_of _ (by decide +kernel)) ggX8_load_X8_refuse
set_option maxRecDepth 20000 in
theorem ggX8_load_X8_holdBits : GoodIn wsX8_load wsX8_holdBits := goodIn_r _ [32, 33, 34, 35, 36, 37, 38, 39, 40, 41, 42, 43, 5, 44, 45, 46, 47, 59, 60, 61, 62, 63, 64, 65, 66, 67, 68, 69, 70, 71, 72, 73, 74, 75, 76, 77, 78, 79, 80, 81, 82, 83, 84] (by decide +kernel) (by decide +kernel)
set_option maxRecDepth 20000 in
theorem gX8_load_X8_holdBits : GoodIn wsX8_load (wsV RX8 160 RX8 yX8_holdBits wsX8_holdBits) := goodIn_app (goodIn_of _ (by decide +kernel)) ggX8_load_X8_holdBits
set_option maxRecDepth 20000 in
theorem ggX8_load_X8_store : GoodIn wsX8_load wsX8_store := goodIn_r _ [51, 52, 53, 46, 54, 47, 55, 56, 57, 5, 58, 45, 59, 60, 61, 62, 63, 64, 65, 66, 67, 68, 69, 70, 71, 72, 73, 74, 75, 76, 77, 78, 79, 80, 81, 82, 83, 84] (by decide +kernel) (by decide +kernel)
set_option maxRecDepth 20000 in
theorem gX8_load_X8_store : GoodIn wsX8_load (wsV RX8 164 RX8 yX8_store wsX8_store) := goodIn_app (goodIn_of _ (by decide +kernel)) ggX8_load_X8_store
theorem dX8_load_0 : decode cX8_load 0 = .ok (.aload_n 0, 1) := by decide +kernel
theorem dX8_load_1 : decode cX8_load 1 = .ok (.iconst 0, 1) := by decide +kernel
theorem dX8_load_2 : decode cX8_load 2 = .ok (.putfield 64, 3) := by decide +kernel
theorem dX8_load_5 : decode cX8_load 5 = .ok (.aload_n 0, 1) := by decide +kernel
theorem dX8_load_6 : decode cX8_load 6 = .ok (.iload_n 1, 1) := by decide +kernel
theorem dX8_load_7 : decode cX8_load 7 = .ok (.invokevirtual 154, 3) := by decide +kernel
theorem dX8_load_10 : decode cX8_load 10 = .ok (.ifCond .eq 35, 3) := by decide +kernel
theorem dX8_load_13 : decode cX8_load 13 = .ok (.iload_n 2, 1) := by decide +kernel
theorem dX8_load_14 : decode cX8_load 14 = .ok (.invokestatic 147, 3) := by decide +kernel
theorem dX8_load_17 : decode cX8_load 17 = .ok (.ifCond .eq 28, 3) := by decide +kernel
theorem dX8_load_20 : decode cX8_load 20 = .ok (.iload_n 2, 1) := by decide +kernel
theorem dX8_load_21 : decode cX8_load 21 = .ok (.iconst 2, 1) := by decide +kernel
theorem dX8_load_22 : decode cX8_load 22 = .ok (.if_icmp .ne 11, 3) := by decide +kernel
theorem dX8_load_25 : decode cX8_load 25 = .ok (.lload_n 3, 1) := by decide +kernel
theorem dX8_load_26 : decode cX8_load 26 = .ok (.l2i, 1) := by decide +kernel
theorem dX8_load_27 : decode cX8_load 27 = .ok (.invokestatic 157, 3) := by decide +kernel
theorem dX8_load_30 : decode cX8_load 30 = .ok (.ifCond .eq 15, 3) := by decide +kernel
theorem dX8_load_33 : decode cX8_load 33 = .ok (.iload_n 2, 1) := by decide +kernel
theorem dX8_load_34 : decode cX8_load 34 = .ok (.iconst 3, 1) := by decide +kernel
theorem dX8_load_35 : decode cX8_load 35 = .ok (.if_icmp .ne 17, 3) := by decide +kernel
theorem dX8_load_38 : decode cX8_load 38 = .ok (.lload_n 3, 1) := by decide +kernel
theorem dX8_load_39 : decode cX8_load 39 = .ok (.invokestatic 120, 3) := by decide +kernel
theorem dX8_load_42 : decode cX8_load 42 = .ok (.ifCond .ne 10, 3) := by decide +kernel
theorem dX8_load_45 : decode cX8_load 45 = .ok (.aload_n 0, 1) := by decide +kernel
theorem dX8_load_46 : decode cX8_load 46 = .ok (.bipush (-2), 2) := by decide +kernel
theorem dX8_load_48 : decode cX8_load 48 = .ok (.invokevirtual 124, 3) := by decide +kernel
theorem dX8_load_51 : decode cX8_load 51 = .ok (.ireturn, 1) := by decide +kernel
theorem dX8_load_52 : decode cX8_load 52 = .ok (.aload_n 0, 1) := by decide +kernel
theorem dX8_load_53 : decode cX8_load 53 = .ok (.iload_n 2, 1) := by decide +kernel
theorem dX8_load_54 : decode cX8_load 54 = .ok (.lload_n 3, 1) := by decide +kernel
theorem dX8_load_55 : decode cX8_load 55 = .ok (.invokevirtual 160, 3) := by decide +kernel
theorem dX8_load_58 : decode cX8_load 58 = .ok (.aload_n 0, 1) := by decide +kernel
theorem dX8_load_59 : decode cX8_load 59 = .ok (.iload_n 1, 1) := by decide +kernel
theorem dX8_load_60 : decode cX8_load 60 = .ok (.invokevirtual 164, 3) := by decide +kernel
theorem dX8_load_63 : decode cX8_load 63 = .ok (.iconst 1, 1) := by decide +kernel
theorem dX8_load_64 : decode cX8_load 64 = .ok (.ireturn, 1) := by decide +kernel
set_option maxRecDepth 20000 in
theorem ggX8_read_X8_isRegister : GoodIn wsX8_read wsX8_isRegister := goodIn_r _ [6, 7, 8, 9, 5, 10, 60, 61, 62, 63, 64, 65, 66, 67, 68, 69, 70, 71, 72, 73, 74, 75, 76, 77, 78, 79, 80, 81, 82, 83, 84, 85] (by decide +kernel) (by decide +kernel)
set_option maxRecDepth 20000 in
theorem gX8_read_X8_isRegister : GoodIn wsX8_read (wsV RX8 154 RX8 yX8_isRegister wsX8_isRegister) := goodIn_app (goodIn_of _ (by decide +kernel)) ggX8_read_X8_isRegister
set_option maxRecDepth 20000 in
theorem ggX8_read_X8_isKind : GoodIn wsX8_read wsX8_isKind := goodIn_r _ [13, 8, 9, 5, 10] (by decide +kernel) (by decide +kernel)
set_option maxRecDepth 20000 in
theorem gX8_read_X8_isKind : GoodIn wsX8_read (va_wsS RX8 147 yX8_isKind wsX8_isKind) := goodIn_app (goodIn_of _ (by decide +kernel)) ggX8_read_X8_isKind
set_option maxRecDepth 20000 in
theorem ggX8_read_X8_open : GoodIn wsX8_read wsX8_open := goodIn_r _ [17, 18, 19, 20, 21, 22, 23, 5, 24, 25, 26, 27, 60, 61, 62, 63, 64, 65, 66, 67, 68, 69, 70, 71, 72, 73, 74, 75, 76, 77, 78, 79, 80, 81, 82, 83, 84, 85] (by decide +kernel) (by decide +kernel)
set_option maxRecDepth 20000 in
theorem gX8_read_X8_open : GoodIn wsX8_read (wsV RX8 167 RX8 yX8_open wsX8_open) := goodIn_app (goodIn_of _ (by decide +kernel)) ggX8_read_X8_open
set_option maxRecDepth 20000 in
theorem ggX8_read_X8_cast : GoodIn wsX8_read wsX8_cast := goodIn_r _ [31, 25, 26, 27, 60, 61, 62, 63, 64, 65, 66, 67, 68, 69, 70, 71, 72, 73, 74, 75, 76, 77, 78, 79, 80, 81, 82, 83, 84, 85] (by decide +kernel) (by decide +kernel)
set_option maxRecDepth 20000 in
theorem gX8_read_X8_cast : GoodIn wsX8_read (wsV RX8 150 RX8 yX8_cast wsX8_cast) := goodIn_app (goodIn_of _ (by decide +kernel)) ggX8_read_X8_cast
set_option maxRecDepth 20000 in
theorem ggX8_read_X8_bits : GoodIn wsX8_read wsX8_bits := goodIn_r _ [35, 25, 26, 27, 36, 37, 38, 39, 40, 41, 42, 43, 44, 45, 46, 47, 48, 49, 50, 51, 52, 53, 54, 55, 56, 57, 58, 59, 60, 61, 62, 63, 64, 65, 66, 67, 68, 69, 70, 71, 72, 73, 74, 75, 76, 77, 78, 79, 80, 81, 82, 83, 84, 85] (by decide +kernel) (by decide +kernel)
set_option maxRecDepth 20000 in
theorem gX8_read_X8_bits : GoodIn wsX8_read (wsV RX8 140 RX8 yX8_bits wsX8_bits) := goodIn_app (goodIn_of _ (by decide +kernel)) ggX8_read_X8_bits
theorem dX8_read_0 : decode cX8_read 0 = .ok (.aload_n 0, 1) := by decide +kernel
theorem dX8_read_1 : decode cX8_read 1 = .ok (.iconst 0, 1) := by decide +kernel
theorem dX8_read_2 : decode cX8_read 2 = .ok (.putfield 64, 3) := by decide +kernel
theorem dX8_read_5 : decode cX8_read 5 = .ok (.aload_n 0, 1) := by decide +kernel
theorem dX8_read_6 : decode cX8_read 6 = .ok (.iload_n 1, 1) := by decide +kernel
theorem dX8_read_7 : decode cX8_read 7 = .ok (.invokevirtual 154, 3) := by decide +kernel
theorem dX8_read_10 : decode cX8_read 10 = .ok (.ifCond .eq 10, 3) := by decide +kernel
theorem dX8_read_13 : decode cX8_read 13 = .ok (.iload_n 2, 1) := by decide +kernel
theorem dX8_read_14 : decode cX8_read 14 = .ok (.invokestatic 147, 3) := by decide +kernel
theorem dX8_read_17 : decode cX8_read 17 = .ok (.ifCond .ne 11, 3) := by decide +kernel
theorem dX8_read_20 : decode cX8_read 20 = .ok (.aload_n 0, 1) := by decide +kernel
theorem dX8_read_21 : decode cX8_read 21 = .ok (.bipush (-2), 2) := by decide +kernel
theorem dX8_read_23 : decode cX8_read 23 = .ok (.putfield 64, 3) := by decide +kernel
theorem dX8_read_26 : decode cX8_read 26 = .ok (.lconst 0, 1) := by decide +kernel
theorem dX8_read_27 : decode cX8_read 27 = .ok (.lreturn, 1) := by decide +kernel
theorem dX8_read_28 : decode cX8_read 28 = .ok (.aload_n 0, 1) := by decide +kernel
theorem dX8_read_29 : decode cX8_read 29 = .ok (.iload_n 1, 1) := by decide +kernel
theorem dX8_read_30 : decode cX8_read 30 = .ok (.invokevirtual 167, 3) := by decide +kernel
theorem dX8_read_33 : decode cX8_read 33 = .ok (.aload_n 0, 1) := by decide +kernel
theorem dX8_read_34 : decode cX8_read 34 = .ok (.iload_n 2, 1) := by decide +kernel
theorem dX8_read_35 : decode cX8_read 35 = .ok (.invokevirtual 150, 3) := by decide +kernel
theorem dX8_read_38 : decode cX8_read 38 = .ok (.aload_n 0, 1) := by decide +kernel
theorem dX8_read_39 : decode cX8_read 39 = .ok (.invokevirtual 140, 3) := by decide +kernel
theorem dX8_read_42 : decode cX8_read 42 = .ok (.lreturn, 1) := by decide +kernel
set_option maxRecDepth 20000 in
theorem ggX8_move_X8_isRegister : GoodIn wsX8_move wsX8_isRegister := goodIn_r _ [7, 8, 9, 10, 6, 11, 66, 67, 68, 69, 70, 71, 72, 73, 74, 75, 76, 77, 78, 79, 80, 81, 82, 83, 84, 85, 86, 87, 88, 89, 90, 91] (by decide +kernel) (by decide +kernel)
set_option maxRecDepth 20000 in
theorem gX8_move_X8_isRegister : GoodIn wsX8_move (wsV RX8 154 RX8 yX8_isRegister wsX8_isRegister) := goodIn_app (goodIn_of _ (by decide +kernel)) ggX8_move_X8_isRegister
set_option maxRecDepth 20000 in
theorem ggX8_move_X8_refuse : GoodIn wsX8_move wsX8_refuse := goodIn_r _ [15, 1, 16, 66, 67, 68, 69, 70, 71, 72, 73, 74, 75, 76, 77, 78, 79, 80, 81, 82, 83, 84, 85, 86, 87, 88, 89, 90, 91] (by decide +kernel) (by decide +kernel)
set_option maxRecDepth 20000 in
theorem gX8_move_X8_refuse : GoodIn wsX8_move (wsV RX8 124 RX8 yX8_refuse wsX8_refuse) := goodIn_app (goodIn_of _ (by decide +kernel)) ggX8_move_X8_refuse
set_option maxRecDepth 20000 in
theorem ggX8_move_X8_open : GoodIn wsX8_move wsX8_open := goodIn_r _ [20, 21, 22, 23, 24, 25, 26, 6, 27, 2, 28, 29, 66, 67, 68, 69, 70, 71, 72, 73, 74, 75, 76, 77, 78, 79, 80, 81, 82, 83, 84, 85, 86, 87, 88, 89, 90, 91] (by decide +kernel) (by decide +kernel)
set_option maxRecDepth 20000 in
theorem gX8_move_X8_open : GoodIn wsX8_move (wsV RX8 167 RX8 yX8_open wsX8_open) := goodIn_app (goodIn_of _ (by decide +kernel)) ggX8_move_X8_open
set_option maxRecDepth 20000 in
theorem ggX8_move_X8_bits : GoodIn wsX8_move wsX8_bits := goodIn_r _ [33, 2, 28, 29, 34, 35, 36, 37, 38, 39, 40, 41, 42, 43, 44, 45, 46, 47, 48, 49, 50, 51, 52, 53, 54, 55, 56, 57, 66, 67, 68, 69, 70, 71, 72, 73, 74, 75, 76, 77, 78, 79, 80, 81, 82, 83, 84, 85, 86, 87, 88, 89, 90, 91] (by decide +kernel) (by decide +kernel)
set_option maxRecDepth 20000 in
theorem gX8_move_X8_bits : GoodIn wsX8_move (wsV RX8 140 RX8 yX8_bits wsX8_bits) := goodIn_app (goodIn_of _ (by decide +kernel)) ggX8_move_X8_bits
set_option maxRecDepth 20000 in
theorem ggX8_move_X8_store : GoodIn wsX8_move wsX8_store := goodIn_r _ [61, 21, 22, 28, 23, 29, 62, 63, 64, 6, 65, 2, 66, 67, 68, 69, 70, 71, 72, 73, 74, 75, 76, 77, 78, 79, 80, 81, 82, 83, 84, 85, 86, 87, 88, 89, 90, 91] (by decide +kernel) (by decide +kernel)
set_option maxRecDepth 20000 in
theorem gX8_move_X8_store : GoodIn wsX8_move (wsV RX8 164 RX8 yX8_store wsX8_store) := goodIn_app (goodIn_of _ (by decide +kernel)) ggX8_move_X8_store
set_option maxRecDepth 20000 in
theorem ggX8_move_X8_cast : GoodIn wsX8_move wsX8_cast := goodIn_r _ [65, 2, 28, 29, 66, 67, 68, 69, 70, 71, 72, 73, 74, 75, 76, 77, 78, 79, 80, 81, 82, 83, 84, 85, 86, 87, 88, 89, 90, 91] (by decide +kernel) (by decide +kernel)
set_option maxRecDepth 20000 in
theorem gX8_move_X8_cast : GoodIn wsX8_move (wsV RX8 150 RX8 yX8_cast wsX8_cast) := goodIn_app (goodIn_of _ (by decide +kernel)) ggX8_move_X8_cast
theorem dX8_move_0 : decode cX8_move 0 = .ok (.aload_n 0, 1) := by decide +kernel
theorem dX8_move_1 : decode cX8_move 1 = .ok (.iconst 0, 1) := by decide +kernel
theorem dX8_move_2 : decode cX8_move 2 = .ok (.putfield 64, 3) := by decide +kernel
theorem dX8_move_5 : decode cX8_move 5 = .ok (.aload_n 0, 1) := by decide +kernel
theorem dX8_move_6 : decode cX8_move 6 = .ok (.iload_n 1, 1) := by decide +kernel
theorem dX8_move_7 : decode cX8_move 7 = .ok (.invokevirtual 154, 3) := by decide +kernel
theorem dX8_move_10 : decode cX8_move 10 = .ok (.ifCond .eq 11, 3) := by decide +kernel
theorem dX8_move_13 : decode cX8_move 13 = .ok (.aload_n 0, 1) := by decide +kernel
theorem dX8_move_14 : decode cX8_move 14 = .ok (.iload_n 2, 1) := by decide +kernel
theorem dX8_move_15 : decode cX8_move 15 = .ok (.invokevirtual 154, 3) := by decide +kernel
theorem dX8_move_18 : decode cX8_move 18 = .ok (.ifCond .ne 10, 3) := by decide +kernel
theorem dX8_move_21 : decode cX8_move 21 = .ok (.aload_n 0, 1) := by decide +kernel
theorem dX8_move_22 : decode cX8_move 22 = .ok (.bipush (-2), 2) := by decide +kernel
theorem dX8_move_24 : decode cX8_move 24 = .ok (.invokevirtual 124, 3) := by decide +kernel
theorem dX8_move_27 : decode cX8_move 27 = .ok (.ireturn, 1) := by decide +kernel
theorem dX8_move_28 : decode cX8_move 28 = .ok (.aload_n 0, 1) := by decide +kernel
theorem dX8_move_29 : decode cX8_move 29 = .ok (.iload_n 1, 1) := by decide +kernel
theorem dX8_move_30 : decode cX8_move 30 = .ok (.invokevirtual 167, 3) := by decide +kernel
theorem dX8_move_33 : decode cX8_move 33 = .ok (.aload_n 0, 1) := by decide +kernel
theorem dX8_move_34 : decode cX8_move 34 = .ok (.invokevirtual 140, 3) := by decide +kernel
theorem dX8_move_37 : decode cX8_move 37 = .ok (.lstore_n 3, 1) := by decide +kernel
theorem dX8_move_38 : decode cX8_move 38 = .ok (.aload_n 0, 1) := by decide +kernel
theorem dX8_move_39 : decode cX8_move 39 = .ok (.getfield 80, 3) := by decide +kernel
theorem dX8_move_42 : decode cX8_move 42 = .ok (.istore 5, 2) := by decide +kernel
theorem dX8_move_44 : decode cX8_move 44 = .ok (.aload_n 0, 1) := by decide +kernel
theorem dX8_move_45 : decode cX8_move 45 = .ok (.iload_n 2, 1) := by decide +kernel
theorem dX8_move_46 : decode cX8_move 46 = .ok (.invokevirtual 164, 3) := by decide +kernel
theorem dX8_move_49 : decode cX8_move 49 = .ok (.aload_n 0, 1) := by decide +kernel
theorem dX8_move_50 : decode cX8_move 50 = .ok (.iload 5, 2) := by decide +kernel
theorem dX8_move_52 : decode cX8_move 52 = .ok (.invokevirtual 150, 3) := by decide +kernel
theorem dX8_move_55 : decode cX8_move 55 = .ok (.aload_n 0, 1) := by decide +kernel
theorem dX8_move_56 : decode cX8_move 56 = .ok (.invokevirtual 140, 3) := by decide +kernel
theorem dX8_move_59 : decode cX8_move 59 = .ok (.lload_n 3, 1) := by decide +kernel
theorem dX8_move_60 : decode cX8_move 60 = .ok (.lcmp, 1) := by decide +kernel
theorem dX8_move_61 : decode cX8_move 61 = .ok (.ifCond .ne 7, 3) := by decide +kernel
theorem dX8_move_64 : decode cX8_move 64 = .ok (.iconst 1, 1) := by decide +kernel
theorem dX8_move_65 : decode cX8_move 65 = .ok (.goto 4, 3) := by decide +kernel
theorem dX8_move_68 : decode cX8_move 68 = .ok (.iconst 0, 1) := by decide +kernel
theorem dX8_move_69 : decode cX8_move 69 = .ok (.ireturn, 1) := by decide +kernel
set_option maxRecDepth 20000 in
theorem ggX8_take_X8_isWheel : GoodIn wsX8_take wsX8_isWheel := goodIn_r _ [8, 9, 10, 11, 7, 12, 41, 42, 43, 44, 45, 46, 47, 48, 49, 50, 51, 52, 53, 54, 55, 56, 57, 58, 59, 60, 61, 62, 63, 64, 65, 66] (by decide +kernel) (by decide +kernel)
set_option maxRecDepth 20000 in
theorem gX8_take_X8_isWheel : GoodIn wsX8_take (wsV RX8 132 RX8 yX8_isWheel wsX8_isWheel) := goodIn_app (goodIn_of _ (by decide +kernel)) ggX8_take_X8_isWheel
set_option maxRecDepth 20000 in
theorem ggX8_take_X8_isRegister : GoodIn wsX8_take wsX8_isRegister := goodIn_r _ [16, 17, 10, 11, 7, 12, 41, 42, 43, 44, 45, 46, 47, 48, 49, 50, 51, 52, 53, 54, 55, 56, 57, 58, 59, 60, 61, 62, 63, 64, 65, 66] (by decide +kernel) (by decide +kernel)
set_option maxRecDepth 20000 in
theorem gX8_take_X8_isRegister : GoodIn wsX8_take (wsV RX8 154 RX8 yX8_isRegister wsX8_isRegister) := goodIn_app (goodIn_of _ (by decide +kernel)) ggX8_take_X8_isRegister
set_option maxRecDepth 20000 in
theorem ggX8_take_X8_refuse : GoodIn wsX8_take wsX8_refuse := goodIn_r _ [21, 1, 22, 41, 42, 43, 44, 45, 46, 47, 48, 49, 50, 51, 52, 53, 54, 55, 56, 57, 58, 59, 60, 61, 62, 63, 64, 65, 66] (by decide +kernel) (by decide +kernel)
set_option maxRecDepth 20000 in
theorem gX8_take_X8_refuse : GoodIn wsX8_take (wsV RX8 124 RX8 yX8_refuse wsX8_refuse) := goodIn_app (goodIn_of _ (by decide +kernel)) ggX8_take_X8_refuse
set_option maxRecDepth 20000 in
theorem ggX8_take_X8_hold : GoodIn wsX8_take wsX8_hold := goodIn_r _ [26, 27, 28, 29, 41, 42, 43, 44, 45, 46, 47, 48, 49, 50, 51, 52, 53, 54, 55, 56, 57, 58, 59, 60, 61, 62, 63, 64, 65, 66] (by decide +kernel) (by decide +kernel)
set_option maxRecDepth 20000 in
theorem gX8_take_X8_hold : GoodIn wsX8_take (wsV RX8 101 RX8 yX8_hold wsX8_hold) := goodIn_app (goodIn_of _ (by decide +kernel)) ggX8_take_X8_hold
set_option maxRecDepth 20000 in
theorem ggX8_take_X8_store : GoodIn wsX8_take wsX8_store := goodIn_r _ [33, 34, 35, 28, 36, 29, 37, 38, 39, 7, 40, 27, 41, 42, 43, 44, 45, 46, 47, 48, 49, 50, 51, 52, 53, 54, 55, 56, 57, 58, 59, 60, 61, 62, 63, 64, 65, 66] (by decide +kernel) (by decide +kernel)
set_option maxRecDepth 20000 in
theorem gX8_take_X8_store : GoodIn wsX8_take (wsV RX8 164 RX8 yX8_store wsX8_store) := goodIn_app (goodIn_of _ (by decide +kernel)) ggX8_take_X8_store
theorem dX8_take_0 : decode cX8_take 0 = .ok (.aload_n 0, 1) := by decide +kernel
theorem dX8_take_1 : decode cX8_take 1 = .ok (.iconst 0, 1) := by decide +kernel
theorem dX8_take_2 : decode cX8_take 2 = .ok (.putfield 64, 3) := by decide +kernel
theorem dX8_take_5 : decode cX8_take 5 = .ok (.aload_n 0, 1) := by decide +kernel
theorem dX8_take_6 : decode cX8_take 6 = .ok (.iload_n 1, 1) := by decide +kernel
theorem dX8_take_7 : decode cX8_take 7 = .ok (.invokevirtual 132, 3) := by decide +kernel
theorem dX8_take_10 : decode cX8_take 10 = .ok (.ifCond .eq 11, 3) := by decide +kernel
theorem dX8_take_13 : decode cX8_take 13 = .ok (.aload_n 0, 1) := by decide +kernel
theorem dX8_take_14 : decode cX8_take 14 = .ok (.iload_n 2, 1) := by decide +kernel
theorem dX8_take_15 : decode cX8_take 15 = .ok (.invokevirtual 154, 3) := by decide +kernel
theorem dX8_take_18 : decode cX8_take 18 = .ok (.ifCond .ne 10, 3) := by decide +kernel
theorem dX8_take_21 : decode cX8_take 21 = .ok (.aload_n 0, 1) := by decide +kernel
theorem dX8_take_22 : decode cX8_take 22 = .ok (.bipush (-2), 2) := by decide +kernel
theorem dX8_take_24 : decode cX8_take 24 = .ok (.invokevirtual 124, 3) := by decide +kernel
theorem dX8_take_27 : decode cX8_take 27 = .ok (.ireturn, 1) := by decide +kernel
theorem dX8_take_28 : decode cX8_take 28 = .ok (.aload_n 0, 1) := by decide +kernel
theorem dX8_take_29 : decode cX8_take 29 = .ok (.aload_n 0, 1) := by decide +kernel
theorem dX8_take_30 : decode cX8_take 30 = .ok (.getfield 13, 3) := by decide +kernel
theorem dX8_take_33 : decode cX8_take 33 = .ok (.iload_n 1, 1) := by decide +kernel
theorem dX8_take_34 : decode cX8_take 34 = .ok (.iaload, 1) := by decide +kernel
theorem dX8_take_35 : decode cX8_take 35 = .ok (.lconst 0, 1) := by decide +kernel
theorem dX8_take_36 : decode cX8_take 36 = .ok (.aload_n 0, 1) := by decide +kernel
theorem dX8_take_37 : decode cX8_take 37 = .ok (.getfield 20, 3) := by decide +kernel
theorem dX8_take_40 : decode cX8_take 40 = .ok (.iload_n 1, 1) := by decide +kernel
theorem dX8_take_41 : decode cX8_take 41 = .ok (.daload, 1) := by decide +kernel
theorem dX8_take_42 : decode cX8_take 42 = .ok (.invokevirtual 101, 3) := by decide +kernel
theorem dX8_take_45 : decode cX8_take 45 = .ok (.aload_n 0, 1) := by decide +kernel
theorem dX8_take_46 : decode cX8_take 46 = .ok (.iload_n 2, 1) := by decide +kernel
theorem dX8_take_47 : decode cX8_take 47 = .ok (.invokevirtual 164, 3) := by decide +kernel
theorem dX8_take_50 : decode cX8_take 50 = .ok (.iconst 1, 1) := by decide +kernel
theorem dX8_take_51 : decode cX8_take 51 = .ok (.ireturn, 1) := by decide +kernel
set_option maxRecDepth 20000 in
theorem ggX8_isVoid_X8_isEndless : GoodIn wsX8_isVoid wsX8_isEndless := goodIn_r _ [4, 5, 6] (by decide +kernel) (by decide +kernel)
set_option maxRecDepth 20000 in
theorem gX8_isVoid_X8_isEndless : GoodIn wsX8_isVoid (va_wsS RX8 136 yX8_isEndless wsX8_isEndless) := goodIn_app (goodIn_of _ (by decide +kernel)) ggX8_isVoid_X8_isEndless
theorem dX8_isVoid_0 : decode cX8_isVoid 0 = .ok (.dload_n 1, 1) := by decide +kernel
theorem dX8_isVoid_1 : decode cX8_isVoid 1 = .ok (.invokestatic 136, 3) := by decide +kernel
theorem dX8_isVoid_4 : decode cX8_isVoid 4 = .ok (.ifCond .eq 14, 3) := by decide +kernel
theorem dX8_isVoid_7 : decode cX8_isVoid 7 = .ok (.dload_n 3, 1) := by decide +kernel
theorem dX8_isVoid_8 : decode cX8_isVoid 8 = .ok (.invokestatic 136, 3) := by decide +kernel
theorem dX8_isVoid_11 : decode cX8_isVoid 11 = .ok (.ifCond .eq 7, 3) := by decide +kernel
theorem dX8_isVoid_14 : decode cX8_isVoid 14 = .ok (.iconst 1, 1) := by decide +kernel
theorem dX8_isVoid_15 : decode cX8_isVoid 15 = .ok (.goto 4, 3) := by decide +kernel
theorem dX8_isVoid_18 : decode cX8_isVoid 18 = .ok (.iconst 0, 1) := by decide +kernel
theorem dX8_isVoid_19 : decode cX8_isVoid 19 = .ok (.istore 5, 2) := by decide +kernel
theorem dX8_isVoid_21 : decode cX8_isVoid 21 = .ok (.iload_n 0, 1) := by decide +kernel
theorem dX8_isVoid_22 : decode cX8_isVoid 22 = .ok (.tableswitch 119 0 3 #[30, 47, 64, 96], 30) := by decide +kernel
theorem dX8_isVoid_52 : decode cX8_isVoid 52 = .ok (.iload 5, 2) := by decide +kernel
theorem dX8_isVoid_54 : decode cX8_isVoid 54 = .ok (.ifCond .eq 13, 3) := by decide +kernel
theorem dX8_isVoid_57 : decode cX8_isVoid 57 = .ok (.dload_n 1, 1) := by decide +kernel
theorem dX8_isVoid_58 : decode cX8_isVoid 58 = .ok (.dload_n 3, 1) := by decide +kernel
theorem dX8_isVoid_59 : decode cX8_isVoid 59 = .ok (.dcmp .l, 1) := by decide +kernel
theorem dX8_isVoid_60 : decode cX8_isVoid 60 = .ok (.ifCond .eq 7, 3) := by decide +kernel
theorem dX8_isVoid_63 : decode cX8_isVoid 63 = .ok (.iconst 1, 1) := by decide +kernel
theorem dX8_isVoid_64 : decode cX8_isVoid 64 = .ok (.goto 4, 3) := by decide +kernel
theorem dX8_isVoid_67 : decode cX8_isVoid 67 = .ok (.iconst 0, 1) := by decide +kernel
theorem dX8_isVoid_68 : decode cX8_isVoid 68 = .ok (.ireturn, 1) := by decide +kernel
theorem dX8_isVoid_69 : decode cX8_isVoid 69 = .ok (.iload 5, 2) := by decide +kernel
theorem dX8_isVoid_71 : decode cX8_isVoid 71 = .ok (.ifCond .eq 13, 3) := by decide +kernel
theorem dX8_isVoid_74 : decode cX8_isVoid 74 = .ok (.dload_n 1, 1) := by decide +kernel
theorem dX8_isVoid_75 : decode cX8_isVoid 75 = .ok (.dload_n 3, 1) := by decide +kernel
theorem dX8_isVoid_76 : decode cX8_isVoid 76 = .ok (.dcmp .l, 1) := by decide +kernel
theorem dX8_isVoid_77 : decode cX8_isVoid 77 = .ok (.ifCond .ne 7, 3) := by decide +kernel
theorem dX8_isVoid_80 : decode cX8_isVoid 80 = .ok (.iconst 1, 1) := by decide +kernel
theorem dX8_isVoid_81 : decode cX8_isVoid 81 = .ok (.goto 4, 3) := by decide +kernel
theorem dX8_isVoid_84 : decode cX8_isVoid 84 = .ok (.iconst 0, 1) := by decide +kernel
theorem dX8_isVoid_85 : decode cX8_isVoid 85 = .ok (.ireturn, 1) := by decide +kernel
theorem dX8_isVoid_86 : decode cX8_isVoid 86 = .ok (.dload_n 1, 1) := by decide +kernel
theorem dX8_isVoid_87 : decode cX8_isVoid 87 = .ok (.dconst 0, 1) := by decide +kernel
theorem dX8_isVoid_88 : decode cX8_isVoid 88 = .ok (.dcmp .l, 1) := by decide +kernel
theorem dX8_isVoid_89 : decode cX8_isVoid 89 = .ok (.ifCond .ne 10, 3) := by decide +kernel
theorem dX8_isVoid_92 : decode cX8_isVoid 92 = .ok (.dload_n 3, 1) := by decide +kernel
theorem dX8_isVoid_93 : decode cX8_isVoid 93 = .ok (.invokestatic 136, 3) := by decide +kernel
theorem dX8_isVoid_96 : decode cX8_isVoid 96 = .ok (.ifCond .ne 16, 3) := by decide +kernel
theorem dX8_isVoid_99 : decode cX8_isVoid 99 = .ok (.dload_n 1, 1) := by decide +kernel
theorem dX8_isVoid_100 : decode cX8_isVoid 100 = .ok (.invokestatic 136, 3) := by decide +kernel
theorem dX8_isVoid_103 : decode cX8_isVoid 103 = .ok (.ifCond .eq 13, 3) := by decide +kernel
theorem dX8_isVoid_106 : decode cX8_isVoid 106 = .ok (.dload_n 3, 1) := by decide +kernel
theorem dX8_isVoid_107 : decode cX8_isVoid 107 = .ok (.dconst 0, 1) := by decide +kernel
theorem dX8_isVoid_108 : decode cX8_isVoid 108 = .ok (.dcmp .l, 1) := by decide +kernel
theorem dX8_isVoid_109 : decode cX8_isVoid 109 = .ok (.ifCond .ne 7, 3) := by decide +kernel
theorem dX8_isVoid_112 : decode cX8_isVoid 112 = .ok (.iconst 1, 1) := by decide +kernel
theorem dX8_isVoid_113 : decode cX8_isVoid 113 = .ok (.goto 4, 3) := by decide +kernel
theorem dX8_isVoid_116 : decode cX8_isVoid 116 = .ok (.iconst 0, 1) := by decide +kernel
theorem dX8_isVoid_117 : decode cX8_isVoid 117 = .ok (.ireturn, 1) := by decide +kernel
theorem dX8_isVoid_118 : decode cX8_isVoid 118 = .ok (.iload 5, 2) := by decide +kernel
theorem dX8_isVoid_120 : decode cX8_isVoid 120 = .ok (.ifCond .ne 15, 3) := by decide +kernel
theorem dX8_isVoid_123 : decode cX8_isVoid 123 = .ok (.dload_n 1, 1) := by decide +kernel
theorem dX8_isVoid_124 : decode cX8_isVoid 124 = .ok (.dconst 0, 1) := by decide +kernel
theorem dX8_isVoid_125 : decode cX8_isVoid 125 = .ok (.dcmp .l, 1) := by decide +kernel
theorem dX8_isVoid_126 : decode cX8_isVoid 126 = .ok (.ifCond .ne 13, 3) := by decide +kernel
theorem dX8_isVoid_129 : decode cX8_isVoid 129 = .ok (.dload_n 3, 1) := by decide +kernel
theorem dX8_isVoid_130 : decode cX8_isVoid 130 = .ok (.dconst 0, 1) := by decide +kernel
theorem dX8_isVoid_131 : decode cX8_isVoid 131 = .ok (.dcmp .l, 1) := by decide +kernel
theorem dX8_isVoid_132 : decode cX8_isVoid 132 = .ok (.ifCond .ne 7, 3) := by decide +kernel
theorem dX8_isVoid_135 : decode cX8_isVoid 135 = .ok (.iconst 1, 1) := by decide +kernel
theorem dX8_isVoid_136 : decode cX8_isVoid 136 = .ok (.goto 4, 3) := by decide +kernel
theorem dX8_isVoid_139 : decode cX8_isVoid 139 = .ok (.iconst 0, 1) := by decide +kernel
theorem dX8_isVoid_140 : decode cX8_isVoid 140 = .ok (.ireturn, 1) := by decide +kernel
theorem dX8_isVoid_141 : decode cX8_isVoid 141 = .ok (.dload_n 1, 1) := by decide +kernel
theorem dX8_isVoid_142 : decode cX8_isVoid 142 = .ok (.invokestatic 136, 3) := by decide +kernel
theorem dX8_isVoid_145 : decode cX8_isVoid 145 = .ok (.ifCond .ne 9, 3) := by decide +kernel
theorem dX8_isVoid_148 : decode cX8_isVoid 148 = .ok (.dload_n 3, 1) := by decide +kernel
theorem dX8_isVoid_149 : decode cX8_isVoid 149 = .ok (.dconst 0, 1) := by decide +kernel
theorem dX8_isVoid_150 : decode cX8_isVoid 150 = .ok (.dcmp .l, 1) := by decide +kernel
theorem dX8_isVoid_151 : decode cX8_isVoid 151 = .ok (.ifCond .ne 7, 3) := by decide +kernel
theorem dX8_isVoid_154 : decode cX8_isVoid 154 = .ok (.iconst 1, 1) := by decide +kernel
theorem dX8_isVoid_155 : decode cX8_isVoid 155 = .ok (.goto 4, 3) := by decide +kernel
theorem dX8_isVoid_158 : decode cX8_isVoid 158 = .ok (.iconst 0, 1) := by decide +kernel
theorem dX8_isVoid_159 : decode cX8_isVoid 159 = .ok (.ireturn, 1) := by decide +kernel
theorem dX8_workReal_0 : decode cX8_workReal 0 = .ok (.iload_n 0, 1) := by decide +kernel
theorem dX8_workReal_1 : decode cX8_workReal 1 = .ok (.ifCond .ne 9, 3) := by decide +kernel
theorem dX8_workReal_4 : decode cX8_workReal 4 = .ok (.dload_n 1, 1) := by decide +kernel
theorem dX8_workReal_5 : decode cX8_workReal 5 = .ok (.dload_n 3, 1) := by decide +kernel
theorem dX8_workReal_6 : decode cX8_workReal 6 = .ok (.dadd, 1) := by decide +kernel
theorem dX8_workReal_7 : decode cX8_workReal 7 = .ok (.goto 39, 3) := by decide +kernel
theorem dX8_workReal_10 : decode cX8_workReal 10 = .ok (.iload_n 0, 1) := by decide +kernel
theorem dX8_workReal_11 : decode cX8_workReal 11 = .ok (.iconst 1, 1) := by decide +kernel
theorem dX8_workReal_12 : decode cX8_workReal 12 = .ok (.if_icmp .ne 9, 3) := by decide +kernel
theorem dX8_workReal_15 : decode cX8_workReal 15 = .ok (.dload_n 1, 1) := by decide +kernel
theorem dX8_workReal_16 : decode cX8_workReal 16 = .ok (.dload_n 3, 1) := by decide +kernel
theorem dX8_workReal_17 : decode cX8_workReal 17 = .ok (.dsub, 1) := by decide +kernel
theorem dX8_workReal_18 : decode cX8_workReal 18 = .ok (.goto 28, 3) := by decide +kernel
theorem dX8_workReal_21 : decode cX8_workReal 21 = .ok (.iload_n 0, 1) := by decide +kernel
theorem dX8_workReal_22 : decode cX8_workReal 22 = .ok (.iconst 2, 1) := by decide +kernel
theorem dX8_workReal_23 : decode cX8_workReal 23 = .ok (.if_icmp .ne 9, 3) := by decide +kernel
theorem dX8_workReal_26 : decode cX8_workReal 26 = .ok (.dload_n 1, 1) := by decide +kernel
theorem dX8_workReal_27 : decode cX8_workReal 27 = .ok (.dload_n 3, 1) := by decide +kernel
theorem dX8_workReal_28 : decode cX8_workReal 28 = .ok (.dmul, 1) := by decide +kernel
theorem dX8_workReal_29 : decode cX8_workReal 29 = .ok (.goto 17, 3) := by decide +kernel
theorem dX8_workReal_32 : decode cX8_workReal 32 = .ok (.iload_n 0, 1) := by decide +kernel
theorem dX8_workReal_33 : decode cX8_workReal 33 = .ok (.iconst 3, 1) := by decide +kernel
theorem dX8_workReal_34 : decode cX8_workReal 34 = .ok (.if_icmp .ne 9, 3) := by decide +kernel
theorem dX8_workReal_37 : decode cX8_workReal 37 = .ok (.dload_n 1, 1) := by decide +kernel
theorem dX8_workReal_38 : decode cX8_workReal 38 = .ok (.dload_n 3, 1) := by decide +kernel
theorem dX8_workReal_39 : decode cX8_workReal 39 = .ok (.ddiv, 1) := by decide +kernel
theorem dX8_workReal_40 : decode cX8_workReal 40 = .ok (.goto 6, 3) := by decide +kernel
theorem dX8_workReal_43 : decode cX8_workReal 43 = .ok (.dload_n 1, 1) := by decide +kernel
theorem dX8_workReal_44 : decode cX8_workReal 44 = .ok (.dload_n 3, 1) := by decide +kernel
theorem dX8_workReal_45 : decode cX8_workReal 45 = .ok (.drem, 1) := by decide +kernel
theorem dX8_workReal_46 : decode cX8_workReal 46 = .ok (.dreturn, 1) := by decide +kernel
theorem dX8_workWhole_0 : decode cX8_workWhole 0 = .ok (.iload_n 0, 1) := by decide +kernel
theorem dX8_workWhole_1 : decode cX8_workWhole 1 = .ok (.ifCond .ne 9, 3) := by decide +kernel
theorem dX8_workWhole_4 : decode cX8_workWhole 4 = .ok (.lload_n 1, 1) := by decide +kernel
theorem dX8_workWhole_5 : decode cX8_workWhole 5 = .ok (.lload_n 3, 1) := by decide +kernel
theorem dX8_workWhole_6 : decode cX8_workWhole 6 = .ok (.ladd, 1) := by decide +kernel
theorem dX8_workWhole_7 : decode cX8_workWhole 7 = .ok (.goto 39, 3) := by decide +kernel
theorem dX8_workWhole_10 : decode cX8_workWhole 10 = .ok (.iload_n 0, 1) := by decide +kernel
theorem dX8_workWhole_11 : decode cX8_workWhole 11 = .ok (.iconst 1, 1) := by decide +kernel
theorem dX8_workWhole_12 : decode cX8_workWhole 12 = .ok (.if_icmp .ne 9, 3) := by decide +kernel
theorem dX8_workWhole_15 : decode cX8_workWhole 15 = .ok (.lload_n 1, 1) := by decide +kernel
theorem dX8_workWhole_16 : decode cX8_workWhole 16 = .ok (.lload_n 3, 1) := by decide +kernel
theorem dX8_workWhole_17 : decode cX8_workWhole 17 = .ok (.lsub, 1) := by decide +kernel
theorem dX8_workWhole_18 : decode cX8_workWhole 18 = .ok (.goto 28, 3) := by decide +kernel
theorem dX8_workWhole_21 : decode cX8_workWhole 21 = .ok (.iload_n 0, 1) := by decide +kernel
theorem dX8_workWhole_22 : decode cX8_workWhole 22 = .ok (.iconst 2, 1) := by decide +kernel
theorem dX8_workWhole_23 : decode cX8_workWhole 23 = .ok (.if_icmp .ne 9, 3) := by decide +kernel
theorem dX8_workWhole_26 : decode cX8_workWhole 26 = .ok (.lload_n 1, 1) := by decide +kernel
theorem dX8_workWhole_27 : decode cX8_workWhole 27 = .ok (.lload_n 3, 1) := by decide +kernel
theorem dX8_workWhole_28 : decode cX8_workWhole 28 = .ok (.lmul, 1) := by decide +kernel
theorem dX8_workWhole_29 : decode cX8_workWhole 29 = .ok (.goto 17, 3) := by decide +kernel
theorem dX8_workWhole_32 : decode cX8_workWhole 32 = .ok (.iload_n 0, 1) := by decide +kernel
theorem dX8_workWhole_33 : decode cX8_workWhole 33 = .ok (.iconst 3, 1) := by decide +kernel
theorem dX8_workWhole_34 : decode cX8_workWhole 34 = .ok (.if_icmp .ne 9, 3) := by decide +kernel
theorem dX8_workWhole_37 : decode cX8_workWhole 37 = .ok (.lload_n 1, 1) := by decide +kernel
theorem dX8_workWhole_38 : decode cX8_workWhole 38 = .ok (.lload_n 3, 1) := by decide +kernel
theorem dX8_workWhole_39 : decode cX8_workWhole 39 = .ok (.ldiv, 1) := by decide +kernel
theorem dX8_workWhole_40 : decode cX8_workWhole 40 = .ok (.goto 6, 3) := by decide +kernel
theorem dX8_workWhole_43 : decode cX8_workWhole 43 = .ok (.lload_n 1, 1) := by decide +kernel
theorem dX8_workWhole_44 : decode cX8_workWhole 44 = .ok (.lload_n 3, 1) := by decide +kernel
theorem dX8_workWhole_45 : decode cX8_workWhole 45 = .ok (.lrem, 1) := by decide +kernel
theorem dX8_workWhole_46 : decode cX8_workWhole 46 = .ok (.lreturn, 1) := by decide +kernel
set_option maxRecDepth 20000 in
theorem ggX8_work_X8_isIn : GoodIn wsX8_work wsX8_isIn := goodIn_r _ [8] (by decide +kernel) (by decide +kernel)
set_option maxRecDepth 20000 in
theorem gX8_work_X8_isIn : GoodIn wsX8_work (va_wsS RX8 116 yX8_isIn wsX8_isIn) := goodIn_app (goodIn_of _ (by decide +kernel)) ggX8_work_X8_isIn
set_option maxRecDepth 20000 in
theorem ggX8_work_X8_isRegister : GoodIn wsX8_work wsX8_isRegister := goodIn_r _ [12, 13, 5, 6, 7, 8, 55, 56, 57, 58, 59, 60, 61, 62, 63, 64, 65, 66, 67, 68, 69, 70, 71, 72, 73, 74, 75, 76, 77, 78, 79, 80] (by decide +kernel) (by decide +kernel)
set_option maxRecDepth 20000 in
theorem gX8_work_X8_isRegister : GoodIn wsX8_work (wsV RX8 154 RX8 yX8_isRegister wsX8_isRegister) := goodIn_app (goodIn_of _ (by decide +kernel)) ggX8_work_X8_isRegister
set_option maxRecDepth 20000 in
theorem ggX8_work_X8_refuse : GoodIn wsX8_work wsX8_refuse := goodIn_r _ [17, 1, 18, 55, 56, 57, 58, 59, 60, 61, 62, 63, 64, 65, 66, 67, 68, 69, 70, 71, 72, 73, 74, 75, 76, 77, 78, 79, 80] (by decide +kernel) (by decide +kernel)
set_option maxRecDepth 20000 in
theorem gX8_work_X8_refuse : GoodIn wsX8_work (wsV RX8 124 RX8 yX8_refuse wsX8_refuse) := goodIn_app (goodIn_of _ (by decide +kernel)) ggX8_work_X8_refuse
set_option maxRecDepth 20000 in
theorem ggX8_work_X8_open : GoodIn wsX8_work wsX8_open := goodIn_r _ [22, 2, 23, 24, 25, 26, 27, 7, 28, 29, 3, 4, 55, 56, 57, 58, 59, 60, 61, 62, 63, 64, 65, 66, 67, 68, 69, 70, 71, 72, 73, 74, 75, 76, 77, 78, 79, 80] (by decide +kernel) (by decide +kernel)
set_option maxRecDepth 20000 in
theorem gX8_work_X8_open : GoodIn wsX8_work (wsV RX8 167 RX8 yX8_open wsX8_open) := goodIn_app (goodIn_of _ (by decide +kernel)) ggX8_work_X8_open
set_option maxRecDepth 20000 in
theorem ggX8_work_X8_cast : GoodIn wsX8_work wsX8_cast := goodIn_r _ [33, 29, 3, 4, 55, 56, 57, 58, 59, 60, 61, 62, 63, 64, 65, 66, 67, 68, 69, 70, 71, 72, 73, 74, 75, 76, 77, 78, 79, 80] (by decide +kernel) (by decide +kernel)
set_option maxRecDepth 20000 in
theorem gX8_work_X8_cast : GoodIn wsX8_work (wsV RX8 150 RX8 yX8_cast wsX8_cast) := goodIn_app (goodIn_of _ (by decide +kernel)) ggX8_work_X8_cast
set_option maxRecDepth 20000 in
theorem ggX8_work_X8_isVoid : GoodIn wsX8_work wsX8_isVoid := goodIn_r _ [36, 37, 38, 7, 39, 40, 41] (by decide +kernel) (by decide +kernel)
set_option maxRecDepth 20000 in
theorem gX8_work_X8_isVoid : GoodIn wsX8_work (va_wsS RX8 170 yX8_isVoid wsX8_isVoid) := goodIn_app (goodIn_of _ (by decide +kernel)) ggX8_work_X8_isVoid
set_option maxRecDepth 20000 in
theorem ggX8_work_X8_workWhole : GoodIn wsX8_work wsX8_workWhole := goodIn_r _ [44] (by decide +kernel) (by decide +kernel)
set_option maxRecDepth 20000 in
theorem gX8_work_X8_workWhole : GoodIn wsX8_work (va_wsS RX8 174 yX8_workWhole wsX8_workWhole) := goodIn_app (goodIn_of _ (by decide +kernel)) ggX8_work_X8_workWhole
set_option maxRecDepth 20000 in
theorem ggX8_work_X8_hold : GoodIn wsX8_work wsX8_hold := goodIn_r _ [28, 29, 3, 4, 55, 56, 57, 58, 59, 60, 61, 62, 63, 64, 65, 66, 67, 68, 69, 70, 71, 72, 73, 74, 75, 76, 77, 78, 79, 80] (by decide +kernel) (by decide +kernel)
set_option maxRecDepth 20000 in
theorem gX8_work_X8_hold : GoodIn wsX8_work (wsV RX8 101 RX8 yX8_hold wsX8_hold) := goodIn_app (goodIn_of _ (by decide +kernel)) ggX8_work_X8_hold
set_option maxRecDepth 20000 in
theorem ggX8_work_X8_workReal : GoodIn wsX8_work wsX8_workReal := goodIn_r _ [47] (by decide +kernel) (by decide +kernel)
set_option maxRecDepth 20000 in
theorem gX8_work_X8_workReal : GoodIn wsX8_work (va_wsS RX8 178 yX8_workReal wsX8_workReal) := goodIn_app (goodIn_of _ (by decide +kernel)) ggX8_work_X8_workReal
set_option maxRecDepth 20000 in
theorem ggX8_work_X8_narrowed : GoodIn wsX8_work wsX8_narrowed := goodIn_r _ [50] (by decide +kernel) (by decide +kernel)
set_option maxRecDepth 20000 in
theorem gX8_work_X8_narrowed : GoodIn wsX8_work (va_wsS RX8 128 yX8_narrowed wsX8_narrowed) := goodIn_app (goodIn_of _ (by decide +kernel)) ggX8_work_X8_narrowed
set_option maxRecDepth 20000 in
theorem ggX8_work_X8_store : GoodIn wsX8_work wsX8_store := goodIn_r _ [54, 2, 23, 3, 24, 4, 30, 31, 32, 7, 33, 29, 55, 56, 57, 58, 59, 60, 61, 62, 63, 64, 65, 66, 67, 68, 69, 70, 71, 72, 73, 74, 75, 76, 77, 78, 79, 80] (by decide +kernel) (by decide +kernel)
set_option maxRecDepth 20000 in
theorem gX8_work_X8_store : GoodIn wsX8_work (wsV RX8 164 RX8 yX8_store wsX8_store) := goodIn_app (goodIn_of _ (by decide +kernel)) ggX8_work_X8_store
theorem dX8_work_0 : decode cX8_work 0 = .ok (.aload_n 0, 1) := by decide +kernel
theorem dX8_work_1 : decode cX8_work 1 = .ok (.iconst 0, 1) := by decide +kernel
theorem dX8_work_2 : decode cX8_work 2 = .ok (.putfield 64, 3) := by decide +kernel
theorem dX8_work_5 : decode cX8_work 5 = .ok (.iload_n 1, 1) := by decide +kernel
theorem dX8_work_6 : decode cX8_work 6 = .ok (.iconst 0, 1) := by decide +kernel
theorem dX8_work_7 : decode cX8_work 7 = .ok (.iconst 4, 1) := by decide +kernel
theorem dX8_work_8 : decode cX8_work 8 = .ok (.invokestatic 116, 3) := by decide +kernel
theorem dX8_work_11 : decode cX8_work 11 = .ok (.ifCond .eq 28, 3) := by decide +kernel
theorem dX8_work_14 : decode cX8_work 14 = .ok (.aload_n 0, 1) := by decide +kernel
theorem dX8_work_15 : decode cX8_work 15 = .ok (.iload_n 2, 1) := by decide +kernel
theorem dX8_work_16 : decode cX8_work 16 = .ok (.invokevirtual 154, 3) := by decide +kernel
theorem dX8_work_19 : decode cX8_work 19 = .ok (.ifCond .eq 20, 3) := by decide +kernel
theorem dX8_work_22 : decode cX8_work 22 = .ok (.aload_n 0, 1) := by decide +kernel
theorem dX8_work_23 : decode cX8_work 23 = .ok (.iload_n 3, 1) := by decide +kernel
theorem dX8_work_24 : decode cX8_work 24 = .ok (.invokevirtual 154, 3) := by decide +kernel
theorem dX8_work_27 : decode cX8_work 27 = .ok (.ifCond .eq 12, 3) := by decide +kernel
theorem dX8_work_30 : decode cX8_work 30 = .ok (.aload_n 0, 1) := by decide +kernel
theorem dX8_work_31 : decode cX8_work 31 = .ok (.iload 4, 2) := by decide +kernel
theorem dX8_work_33 : decode cX8_work 33 = .ok (.invokevirtual 154, 3) := by decide +kernel
theorem dX8_work_36 : decode cX8_work 36 = .ok (.ifCond .ne 10, 3) := by decide +kernel
theorem dX8_work_39 : decode cX8_work 39 = .ok (.aload_n 0, 1) := by decide +kernel
theorem dX8_work_40 : decode cX8_work 40 = .ok (.bipush (-2), 2) := by decide +kernel
theorem dX8_work_42 : decode cX8_work 42 = .ok (.invokevirtual 124, 3) := by decide +kernel
theorem dX8_work_45 : decode cX8_work 45 = .ok (.ireturn, 1) := by decide +kernel
theorem dX8_work_46 : decode cX8_work 46 = .ok (.aload_n 0, 1) := by decide +kernel
theorem dX8_work_47 : decode cX8_work 47 = .ok (.getfield 23, 3) := by decide +kernel
theorem dX8_work_50 : decode cX8_work 50 = .ok (.iload_n 2, 1) := by decide +kernel
theorem dX8_work_51 : decode cX8_work 51 = .ok (.iaload, 1) := by decide +kernel
theorem dX8_work_52 : decode cX8_work 52 = .ok (.aload_n 0, 1) := by decide +kernel
theorem dX8_work_53 : decode cX8_work 53 = .ok (.getfield 23, 3) := by decide +kernel
theorem dX8_work_56 : decode cX8_work 56 = .ok (.iload_n 3, 1) := by decide +kernel
theorem dX8_work_57 : decode cX8_work 57 = .ok (.iaload, 1) := by decide +kernel
theorem dX8_work_58 : decode cX8_work 58 = .ok (.if_icmp .le 12, 3) := by decide +kernel
theorem dX8_work_61 : decode cX8_work 61 = .ok (.aload_n 0, 1) := by decide +kernel
theorem dX8_work_62 : decode cX8_work 62 = .ok (.getfield 23, 3) := by decide +kernel
theorem dX8_work_65 : decode cX8_work 65 = .ok (.iload_n 2, 1) := by decide +kernel
theorem dX8_work_66 : decode cX8_work 66 = .ok (.iaload, 1) := by decide +kernel
theorem dX8_work_67 : decode cX8_work 67 = .ok (.goto 9, 3) := by decide +kernel
theorem dX8_work_70 : decode cX8_work 70 = .ok (.aload_n 0, 1) := by decide +kernel
theorem dX8_work_71 : decode cX8_work 71 = .ok (.getfield 23, 3) := by decide +kernel
theorem dX8_work_74 : decode cX8_work 74 = .ok (.iload_n 3, 1) := by decide +kernel
theorem dX8_work_75 : decode cX8_work 75 = .ok (.iaload, 1) := by decide +kernel
theorem dX8_work_76 : decode cX8_work 76 = .ok (.istore 5, 2) := by decide +kernel
theorem dX8_work_78 : decode cX8_work 78 = .ok (.aload_n 0, 1) := by decide +kernel
theorem dX8_work_79 : decode cX8_work 79 = .ok (.iload_n 2, 1) := by decide +kernel
theorem dX8_work_80 : decode cX8_work 80 = .ok (.invokevirtual 167, 3) := by decide +kernel
theorem dX8_work_83 : decode cX8_work 83 = .ok (.aload_n 0, 1) := by decide +kernel
theorem dX8_work_84 : decode cX8_work 84 = .ok (.iload 5, 2) := by decide +kernel
theorem dX8_work_86 : decode cX8_work 86 = .ok (.invokevirtual 150, 3) := by decide +kernel
theorem dX8_work_89 : decode cX8_work 89 = .ok (.aload_n 0, 1) := by decide +kernel
theorem dX8_work_90 : decode cX8_work 90 = .ok (.getfield 83, 3) := by decide +kernel
theorem dX8_work_93 : decode cX8_work 93 = .ok (.lstore 6, 2) := by decide +kernel
theorem dX8_work_95 : decode cX8_work 95 = .ok (.aload_n 0, 1) := by decide +kernel
theorem dX8_work_96 : decode cX8_work 96 = .ok (.getfield 87, 3) := by decide +kernel
theorem dX8_work_99 : decode cX8_work 99 = .ok (.dstore 8, 2) := by decide +kernel
theorem dX8_work_101 : decode cX8_work 101 = .ok (.aload_n 0, 1) := by decide +kernel
theorem dX8_work_102 : decode cX8_work 102 = .ok (.iload_n 3, 1) := by decide +kernel
theorem dX8_work_103 : decode cX8_work 103 = .ok (.invokevirtual 167, 3) := by decide +kernel
theorem dX8_work_106 : decode cX8_work 106 = .ok (.aload_n 0, 1) := by decide +kernel
theorem dX8_work_107 : decode cX8_work 107 = .ok (.iload 5, 2) := by decide +kernel
theorem dX8_work_109 : decode cX8_work 109 = .ok (.invokevirtual 150, 3) := by decide +kernel
theorem dX8_work_112 : decode cX8_work 112 = .ok (.aload_n 0, 1) := by decide +kernel
theorem dX8_work_113 : decode cX8_work 113 = .ok (.getfield 83, 3) := by decide +kernel
theorem dX8_work_116 : decode cX8_work 116 = .ok (.lstore 10, 2) := by decide +kernel
theorem dX8_work_118 : decode cX8_work 118 = .ok (.aload_n 0, 1) := by decide +kernel
theorem dX8_work_119 : decode cX8_work 119 = .ok (.getfield 87, 3) := by decide +kernel
theorem dX8_work_122 : decode cX8_work 122 = .ok (.dstore 12, 2) := by decide +kernel
theorem dX8_work_124 : decode cX8_work 124 = .ok (.iload 5, 2) := by decide +kernel
theorem dX8_work_126 : decode cX8_work 126 = .ok (.iconst 2, 1) := by decide +kernel
theorem dX8_work_127 : decode cX8_work 127 = .ok (.if_icmp .ge 22, 3) := by decide +kernel
theorem dX8_work_130 : decode cX8_work 130 = .ok (.iload_n 1, 1) := by decide +kernel
theorem dX8_work_131 : decode cX8_work 131 = .ok (.iconst 2, 1) := by decide +kernel
theorem dX8_work_132 : decode cX8_work 132 = .ok (.if_icmp .le 17, 3) := by decide +kernel
theorem dX8_work_135 : decode cX8_work 135 = .ok (.lload 10, 2) := by decide +kernel
theorem dX8_work_137 : decode cX8_work 137 = .ok (.lconst 0, 1) := by decide +kernel
theorem dX8_work_138 : decode cX8_work 138 = .ok (.lcmp, 1) := by decide +kernel
theorem dX8_work_139 : decode cX8_work 139 = .ok (.ifCond .ne 10, 3) := by decide +kernel
theorem dX8_work_142 : decode cX8_work 142 = .ok (.aload_n 0, 1) := by decide +kernel
theorem dX8_work_143 : decode cX8_work 143 = .ok (.bipush (-6), 2) := by decide +kernel
theorem dX8_work_145 : decode cX8_work 145 = .ok (.invokevirtual 124, 3) := by decide +kernel
theorem dX8_work_148 : decode cX8_work 148 = .ok (.ireturn, 1) := by decide +kernel
theorem dX8_work_149 : decode cX8_work 149 = .ok (.iload 5, 2) := by decide +kernel
theorem dX8_work_151 : decode cX8_work 151 = .ok (.iconst 1, 1) := by decide +kernel
theorem dX8_work_152 : decode cX8_work 152 = .ok (.if_icmp .le 21, 3) := by decide +kernel
theorem dX8_work_155 : decode cX8_work 155 = .ok (.iload_n 1, 1) := by decide +kernel
theorem dX8_work_156 : decode cX8_work 156 = .ok (.dload 8, 2) := by decide +kernel
theorem dX8_work_158 : decode cX8_work 158 = .ok (.dload 12, 2) := by decide +kernel
theorem dX8_work_160 : decode cX8_work 160 = .ok (.invokestatic 170, 3) := by decide +kernel
theorem dX8_work_163 : decode cX8_work 163 = .ok (.ifCond .eq 10, 3) := by decide +kernel
theorem dX8_work_166 : decode cX8_work 166 = .ok (.aload_n 0, 1) := by decide +kernel
theorem dX8_work_167 : decode cX8_work 167 = .ok (.bipush (-5), 2) := by decide +kernel
theorem dX8_work_169 : decode cX8_work 169 = .ok (.invokevirtual 124, 3) := by decide +kernel
theorem dX8_work_172 : decode cX8_work 172 = .ok (.ireturn, 1) := by decide +kernel
theorem dX8_work_173 : decode cX8_work 173 = .ok (.iload 5, 2) := by decide +kernel
theorem dX8_work_175 : decode cX8_work 175 = .ok (.iconst 2, 1) := by decide +kernel
theorem dX8_work_176 : decode cX8_work 176 = .ok (.if_icmp .ge 37, 3) := by decide +kernel
theorem dX8_work_179 : decode cX8_work 179 = .ok (.iload_n 1, 1) := by decide +kernel
theorem dX8_work_180 : decode cX8_work 180 = .ok (.lload 6, 2) := by decide +kernel
theorem dX8_work_182 : decode cX8_work 182 = .ok (.lload 10, 2) := by decide +kernel
theorem dX8_work_184 : decode cX8_work 184 = .ok (.invokestatic 174, 3) := by decide +kernel
theorem dX8_work_187 : decode cX8_work 187 = .ok (.lstore 14, 2) := by decide +kernel
theorem dX8_work_189 : decode cX8_work 189 = .ok (.aload_n 0, 1) := by decide +kernel
theorem dX8_work_190 : decode cX8_work 190 = .ok (.iload 5, 2) := by decide +kernel
theorem dX8_work_192 : decode cX8_work 192 = .ok (.iload 5, 2) := by decide +kernel
theorem dX8_work_194 : decode cX8_work 194 = .ok (.ifCond .ne 10, 3) := by decide +kernel
theorem dX8_work_197 : decode cX8_work 197 = .ok (.lload 14, 2) := by decide +kernel
theorem dX8_work_199 : decode cX8_work 199 = .ok (.l2i, 1) := by decide +kernel
theorem dX8_work_200 : decode cX8_work 200 = .ok (.i2l, 1) := by decide +kernel
theorem dX8_work_201 : decode cX8_work 201 = .ok (.goto 5, 3) := by decide +kernel
theorem dX8_work_204 : decode cX8_work 204 = .ok (.lload 14, 2) := by decide +kernel
theorem dX8_work_206 : decode cX8_work 206 = .ok (.dconst 0, 1) := by decide +kernel
theorem dX8_work_207 : decode cX8_work 207 = .ok (.invokevirtual 101, 3) := by decide +kernel
theorem dX8_work_210 : decode cX8_work 210 = .ok (.goto 23, 3) := by decide +kernel
theorem dX8_work_213 : decode cX8_work 213 = .ok (.aload_n 0, 1) := by decide +kernel
theorem dX8_work_214 : decode cX8_work 214 = .ok (.iload 5, 2) := by decide +kernel
theorem dX8_work_216 : decode cX8_work 216 = .ok (.lconst 0, 1) := by decide +kernel
theorem dX8_work_217 : decode cX8_work 217 = .ok (.iload 5, 2) := by decide +kernel
theorem dX8_work_219 : decode cX8_work 219 = .ok (.iload_n 1, 1) := by decide +kernel
theorem dX8_work_220 : decode cX8_work 220 = .ok (.dload 8, 2) := by decide +kernel
theorem dX8_work_222 : decode cX8_work 222 = .ok (.dload 12, 2) := by decide +kernel
theorem dX8_work_224 : decode cX8_work 224 = .ok (.invokestatic 178, 3) := by decide +kernel
theorem dX8_work_227 : decode cX8_work 227 = .ok (.invokestatic 128, 3) := by decide +kernel
theorem dX8_work_230 : decode cX8_work 230 = .ok (.invokevirtual 101, 3) := by decide +kernel
theorem dX8_work_233 : decode cX8_work 233 = .ok (.aload_n 0, 1) := by decide +kernel
theorem dX8_work_234 : decode cX8_work 234 = .ok (.iload 4, 2) := by decide +kernel
theorem dX8_work_236 : decode cX8_work 236 = .ok (.invokevirtual 164, 3) := by decide +kernel
theorem dX8_work_239 : decode cX8_work 239 = .ok (.iconst 1, 1) := by decide +kernel
theorem dX8_work_240 : decode cX8_work 240 = .ok (.ireturn, 1) := by decide +kernel
set_option maxRecDepth 20000 in
theorem ggX8_isStrip_X8_isIn : GoodIn wsX8_isStrip wsX8_isIn := goodIn_r _ [5] (by decide +kernel) (by decide +kernel)
set_option maxRecDepth 20000 in
theorem gX8_isStrip_X8_isIn : GoodIn wsX8_isStrip (va_wsS RX8 116 yX8_isIn wsX8_isIn) := goodIn_app (goodIn_of _ (by decide +kernel)) ggX8_isStrip_X8_isIn
theorem dX8_isStrip_0 : decode cX8_isStrip 0 = .ok (.iload_n 1, 1) := by decide +kernel
theorem dX8_isStrip_1 : decode cX8_isStrip 1 = .ok (.iconst 0, 1) := by decide +kernel
theorem dX8_isStrip_2 : decode cX8_isStrip 2 = .ok (.aload_n 0, 1) := by decide +kernel
theorem dX8_isStrip_3 : decode cX8_isStrip 3 = .ok (.getfield 182, 3) := by decide +kernel
theorem dX8_isStrip_6 : decode cX8_isStrip 6 = .ok (.iconst 1, 1) := by decide +kernel
theorem dX8_isStrip_7 : decode cX8_isStrip 7 = .ok (.isub, 1) := by decide +kernel
theorem dX8_isStrip_8 : decode cX8_isStrip 8 = .ok (.invokestatic 116, 3) := by decide +kernel
theorem dX8_isStrip_11 : decode cX8_isStrip 11 = .ok (.ireturn, 1) := by decide +kernel
set_option maxRecDepth 20000 in
theorem ggX8_strip_X8_isKind : GoodIn wsX8_strip wsX8_isKind := goodIn_r _ [11, 12, 13, 10, 14] (by decide +kernel) (by decide +kernel)
set_option maxRecDepth 20000 in
theorem gX8_strip_X8_isKind : GoodIn wsX8_strip (va_wsS RX8 147 yX8_isKind wsX8_isKind) := goodIn_app (goodIn_of _ (by decide +kernel)) ggX8_strip_X8_isKind
set_option maxRecDepth 20000 in
theorem ggX8_strip_X8_isIn : GoodIn wsX8_strip wsX8_isIn := goodIn_r _ [14] (by decide +kernel) (by decide +kernel)
set_option maxRecDepth 20000 in
theorem gX8_strip_X8_isIn : GoodIn wsX8_strip (va_wsS RX8 116 yX8_isIn wsX8_isIn) := goodIn_app (goodIn_of _ (by decide +kernel)) ggX8_strip_X8_isIn
set_option maxRecDepth 20000 in
theorem ggX8_strip_X8_refuse : GoodIn wsX8_strip wsX8_refuse := goodIn_r _ [18, 1, 19, 20, 21, 22, 23, 24, 25, 26, 27, 28, 29, 30, 31, 32, 33, 34, 35, 36, 37, 38, 39, 40, 41, 42, 43, 44, 45] (by decide +kernel) (by decide +kernel)
set_option maxRecDepth 20000 in
theorem gX8_strip_X8_refuse : GoodIn wsX8_strip (wsV RX8 124 RX8 yX8_refuse wsX8_refuse) := goodIn_app (goodIn_of _ (by decide +kernel)) ggX8_strip_X8_refuse
theorem dX8_strip_0 : decode cX8_strip 0 = .ok (.aload_n 0, 1) := by decide +kernel
theorem dX8_strip_1 : decode cX8_strip 1 = .ok (.iconst 0, 1) := by decide +kernel
theorem dX8_strip_2 : decode cX8_strip 2 = .ok (.putfield 64, 3) := by decide +kernel
theorem dX8_strip_5 : decode cX8_strip 5 = .ok (.iload_n 1, 1) := by decide +kernel
theorem dX8_strip_6 : decode cX8_strip 6 = .ok (.invokestatic 147, 3) := by decide +kernel
theorem dX8_strip_9 : decode cX8_strip 9 = .ok (.ifCond .eq 13, 3) := by decide +kernel
theorem dX8_strip_12 : decode cX8_strip 12 = .ok (.iload_n 2, 1) := by decide +kernel
theorem dX8_strip_13 : decode cX8_strip 13 = .ok (.iconst 0, 1) := by decide +kernel
theorem dX8_strip_14 : decode cX8_strip 14 = .ok (.bipush 16, 2) := by decide +kernel
theorem dX8_strip_16 : decode cX8_strip 16 = .ok (.invokestatic 116, 3) := by decide +kernel
theorem dX8_strip_19 : decode cX8_strip 19 = .ok (.ifCond .ne 10, 3) := by decide +kernel
theorem dX8_strip_22 : decode cX8_strip 22 = .ok (.aload_n 0, 1) := by decide +kernel
theorem dX8_strip_23 : decode cX8_strip 23 = .ok (.bipush (-2), 2) := by decide +kernel
theorem dX8_strip_25 : decode cX8_strip 25 = .ok (.invokevirtual 124, 3) := by decide +kernel
theorem dX8_strip_28 : decode cX8_strip 28 = .ok (.ireturn, 1) := by decide +kernel
theorem dX8_strip_29 : decode cX8_strip 29 = .ok (.aload_n 0, 1) := by decide +kernel
theorem dX8_strip_30 : decode cX8_strip 30 = .ok (.getfield 182, 3) := by decide +kernel
theorem dX8_strip_33 : decode cX8_strip 33 = .ok (.bipush 8, 2) := by decide +kernel
theorem dX8_strip_35 : decode cX8_strip 35 = .ok (.if_icmp .ne 10, 3) := by decide +kernel
theorem dX8_strip_38 : decode cX8_strip 38 = .ok (.aload_n 0, 1) := by decide +kernel
theorem dX8_strip_39 : decode cX8_strip 39 = .ok (.bipush (-3), 2) := by decide +kernel
theorem dX8_strip_41 : decode cX8_strip 41 = .ok (.invokevirtual 124, 3) := by decide +kernel
theorem dX8_strip_44 : decode cX8_strip 44 = .ok (.ireturn, 1) := by decide +kernel
theorem dX8_strip_45 : decode cX8_strip 45 = .ok (.aload_n 0, 1) := by decide +kernel
theorem dX8_strip_46 : decode cX8_strip 46 = .ok (.getfield 33, 3) := by decide +kernel
theorem dX8_strip_49 : decode cX8_strip 49 = .ok (.aload_n 0, 1) := by decide +kernel
theorem dX8_strip_50 : decode cX8_strip 50 = .ok (.getfield 182, 3) := by decide +kernel
theorem dX8_strip_53 : decode cX8_strip 53 = .ok (.iload_n 1, 1) := by decide +kernel
theorem dX8_strip_54 : decode cX8_strip 54 = .ok (.iastore, 1) := by decide +kernel
theorem dX8_strip_55 : decode cX8_strip 55 = .ok (.aload_n 0, 1) := by decide +kernel
theorem dX8_strip_56 : decode cX8_strip 56 = .ok (.getfield 36, 3) := by decide +kernel
theorem dX8_strip_59 : decode cX8_strip 59 = .ok (.aload_n 0, 1) := by decide +kernel
theorem dX8_strip_60 : decode cX8_strip 60 = .ok (.getfield 182, 3) := by decide +kernel
theorem dX8_strip_63 : decode cX8_strip 63 = .ok (.iload_n 2, 1) := by decide +kernel
theorem dX8_strip_64 : decode cX8_strip 64 = .ok (.iastore, 1) := by decide +kernel
theorem dX8_strip_65 : decode cX8_strip 65 = .ok (.aload_n 0, 1) := by decide +kernel
theorem dX8_strip_66 : decode cX8_strip 66 = .ok (.getfield 39, 3) := by decide +kernel
theorem dX8_strip_69 : decode cX8_strip 69 = .ok (.aload_n 0, 1) := by decide +kernel
theorem dX8_strip_70 : decode cX8_strip 70 = .ok (.getfield 182, 3) := by decide +kernel
theorem dX8_strip_73 : decode cX8_strip 73 = .ok (.iconst 0, 1) := by decide +kernel
theorem dX8_strip_74 : decode cX8_strip 74 = .ok (.bastore, 1) := by decide +kernel
theorem dX8_strip_75 : decode cX8_strip 75 = .ok (.iconst 0, 1) := by decide +kernel
theorem dX8_strip_76 : decode cX8_strip 76 = .ok (.istore_n 3, 1) := by decide +kernel
theorem dX8_strip_77 : decode cX8_strip 77 = .ok (.iload_n 3, 1) := by decide +kernel
theorem dX8_strip_78 : decode cX8_strip 78 = .ok (.bipush 16, 2) := by decide +kernel
theorem dX8_strip_80 : decode cX8_strip 80 = .ok (.if_icmp .ge 39, 3) := by decide +kernel
theorem dX8_strip_83 : decode cX8_strip 83 = .ok (.aload_n 0, 1) := by decide +kernel
theorem dX8_strip_84 : decode cX8_strip 84 = .ok (.getfield 43, 3) := by decide +kernel
theorem dX8_strip_87 : decode cX8_strip 87 = .ok (.bipush 16, 2) := by decide +kernel
theorem dX8_strip_89 : decode cX8_strip 89 = .ok (.aload_n 0, 1) := by decide +kernel
theorem dX8_strip_90 : decode cX8_strip 90 = .ok (.getfield 182, 3) := by decide +kernel
theorem dX8_strip_93 : decode cX8_strip 93 = .ok (.imul, 1) := by decide +kernel
theorem dX8_strip_94 : decode cX8_strip 94 = .ok (.iload_n 3, 1) := by decide +kernel
theorem dX8_strip_95 : decode cX8_strip 95 = .ok (.iadd, 1) := by decide +kernel
theorem dX8_strip_96 : decode cX8_strip 96 = .ok (.lconst 0, 1) := by decide +kernel
theorem dX8_strip_97 : decode cX8_strip 97 = .ok (.lastore, 1) := by decide +kernel
theorem dX8_strip_98 : decode cX8_strip 98 = .ok (.aload_n 0, 1) := by decide +kernel
theorem dX8_strip_99 : decode cX8_strip 99 = .ok (.getfield 46, 3) := by decide +kernel
theorem dX8_strip_102 : decode cX8_strip 102 = .ok (.bipush 16, 2) := by decide +kernel
theorem dX8_strip_104 : decode cX8_strip 104 = .ok (.aload_n 0, 1) := by decide +kernel
theorem dX8_strip_105 : decode cX8_strip 105 = .ok (.getfield 182, 3) := by decide +kernel
theorem dX8_strip_108 : decode cX8_strip 108 = .ok (.imul, 1) := by decide +kernel
theorem dX8_strip_109 : decode cX8_strip 109 = .ok (.iload_n 3, 1) := by decide +kernel
theorem dX8_strip_110 : decode cX8_strip 110 = .ok (.iadd, 1) := by decide +kernel
theorem dX8_strip_111 : decode cX8_strip 111 = .ok (.dconst 0, 1) := by decide +kernel
theorem dX8_strip_112 : decode cX8_strip 112 = .ok (.dastore, 1) := by decide +kernel
theorem dX8_strip_113 : decode cX8_strip 113 = .ok (.iinc 3 1, 3) := by decide +kernel
theorem dX8_strip_116 : decode cX8_strip 116 = .ok (.goto (-39), 3) := by decide +kernel
theorem dX8_strip_119 : decode cX8_strip 119 = .ok (.aload_n 0, 1) := by decide +kernel
theorem dX8_strip_120 : decode cX8_strip 120 = .ok (.dup, 1) := by decide +kernel
theorem dX8_strip_121 : decode cX8_strip 121 = .ok (.getfield 182, 3) := by decide +kernel
theorem dX8_strip_124 : decode cX8_strip 124 = .ok (.iconst 1, 1) := by decide +kernel
theorem dX8_strip_125 : decode cX8_strip 125 = .ok (.iadd, 1) := by decide +kernel
theorem dX8_strip_126 : decode cX8_strip 126 = .ok (.putfield 182, 3) := by decide +kernel
theorem dX8_strip_129 : decode cX8_strip 129 = .ok (.aload_n 0, 1) := by decide +kernel
theorem dX8_strip_130 : decode cX8_strip 130 = .ok (.getfield 182, 3) := by decide +kernel
theorem dX8_strip_133 : decode cX8_strip 133 = .ok (.iconst 1, 1) := by decide +kernel
theorem dX8_strip_134 : decode cX8_strip 134 = .ok (.isub, 1) := by decide +kernel
theorem dX8_strip_135 : decode cX8_strip 135 = .ok (.ireturn, 1) := by decide +kernel
set_option maxRecDepth 20000 in
theorem ggX8_tear_X8_isStrip : GoodIn wsX8_tear wsX8_isStrip := goodIn_r _ [7, 8, 9, 10, 6, 11, 17, 18, 19, 20, 21, 22, 23, 24, 25, 26, 27, 28, 29, 30, 31, 32, 33, 34, 35, 36, 37, 38, 39, 40, 41, 42] (by decide +kernel) (by decide +kernel)
set_option maxRecDepth 20000 in
theorem gX8_tear_X8_isStrip : GoodIn wsX8_tear (wsV RX8 185 RX8 yX8_isStrip wsX8_isStrip) := goodIn_app (goodIn_of _ (by decide +kernel)) ggX8_tear_X8_isStrip
set_option maxRecDepth 20000 in
theorem ggX8_tear_X8_refuse : GoodIn wsX8_tear wsX8_refuse := goodIn_r _ [15, 1, 16, 17, 18, 19, 20, 21, 22, 23, 24, 25, 26, 27, 28, 29, 30, 31, 32, 33, 34, 35, 36, 37, 38, 39, 40, 41, 42] (by decide +kernel) (by decide +kernel)
set_option maxRecDepth 20000 in
theorem gX8_tear_X8_refuse : GoodIn wsX8_tear (wsV RX8 124 RX8 yX8_refuse wsX8_refuse) := goodIn_app (goodIn_of _ (by decide +kernel)) ggX8_tear_X8_refuse
theorem dX8_tear_0 : decode cX8_tear 0 = .ok (.aload_n 0, 1) := by decide +kernel
theorem dX8_tear_1 : decode cX8_tear 1 = .ok (.iconst 0, 1) := by decide +kernel
theorem dX8_tear_2 : decode cX8_tear 2 = .ok (.putfield 64, 3) := by decide +kernel
theorem dX8_tear_5 : decode cX8_tear 5 = .ok (.aload_n 0, 1) := by decide +kernel
theorem dX8_tear_6 : decode cX8_tear 6 = .ok (.iload_n 1, 1) := by decide +kernel
theorem dX8_tear_7 : decode cX8_tear 7 = .ok (.invokevirtual 185, 3) := by decide +kernel
theorem dX8_tear_10 : decode cX8_tear 10 = .ok (.ifCond .ne 10, 3) := by decide +kernel
theorem dX8_tear_13 : decode cX8_tear 13 = .ok (.aload_n 0, 1) := by decide +kernel
theorem dX8_tear_14 : decode cX8_tear 14 = .ok (.bipush (-2), 2) := by decide +kernel
theorem dX8_tear_16 : decode cX8_tear 16 = .ok (.invokevirtual 124, 3) := by decide +kernel
theorem dX8_tear_19 : decode cX8_tear 19 = .ok (.ireturn, 1) := by decide +kernel
theorem dX8_tear_20 : decode cX8_tear 20 = .ok (.aload_n 0, 1) := by decide +kernel
theorem dX8_tear_21 : decode cX8_tear 21 = .ok (.getfield 39, 3) := by decide +kernel
theorem dX8_tear_24 : decode cX8_tear 24 = .ok (.iload_n 1, 1) := by decide +kernel
theorem dX8_tear_25 : decode cX8_tear 25 = .ok (.baload, 1) := by decide +kernel
theorem dX8_tear_26 : decode cX8_tear 26 = .ok (.ifCond .eq 7, 3) := by decide +kernel
theorem dX8_tear_29 : decode cX8_tear 29 = .ok (.iconst 0, 1) := by decide +kernel
theorem dX8_tear_30 : decode cX8_tear 30 = .ok (.goto 4, 3) := by decide +kernel
theorem dX8_tear_33 : decode cX8_tear 33 = .ok (.iconst 1, 1) := by decide +kernel
theorem dX8_tear_34 : decode cX8_tear 34 = .ok (.istore_n 2, 1) := by decide +kernel
theorem dX8_tear_35 : decode cX8_tear 35 = .ok (.aload_n 0, 1) := by decide +kernel
theorem dX8_tear_36 : decode cX8_tear 36 = .ok (.getfield 39, 3) := by decide +kernel
theorem dX8_tear_39 : decode cX8_tear 39 = .ok (.iload_n 1, 1) := by decide +kernel
theorem dX8_tear_40 : decode cX8_tear 40 = .ok (.iconst 1, 1) := by decide +kernel
theorem dX8_tear_41 : decode cX8_tear 41 = .ok (.bastore, 1) := by decide +kernel
theorem dX8_tear_42 : decode cX8_tear 42 = .ok (.iload_n 2, 1) := by decide +kernel
theorem dX8_tear_43 : decode cX8_tear 43 = .ok (.ireturn, 1) := by decide +kernel
set_option maxRecDepth 20000 in
theorem ggX8_against_X8_isIn : GoodIn wsX8_against wsX8_isIn := goodIn_r _ [7] (by decide +kernel) (by decide +kernel)
set_option maxRecDepth 20000 in
theorem gX8_against_X8_isIn : GoodIn wsX8_against (va_wsS RX8 116 yX8_isIn wsX8_isIn) := goodIn_app (goodIn_of _ (by decide +kernel)) ggX8_against_X8_isIn
theorem dX8_against_0 : decode cX8_against 0 = .ok (.aload_n 0, 1) := by decide +kernel
theorem dX8_against_1 : decode cX8_against 1 = .ok (.getfield 39, 3) := by decide +kernel
theorem dX8_against_4 : decode cX8_against 4 = .ok (.iload_n 1, 1) := by decide +kernel
theorem dX8_against_5 : decode cX8_against 5 = .ok (.baload, 1) := by decide +kernel
theorem dX8_against_6 : decode cX8_against 6 = .ok (.ifCond .eq 8, 3) := by decide +kernel
theorem dX8_against_9 : decode cX8_against 9 = .ok (.bipush (-10), 2) := by decide +kernel
theorem dX8_against_11 : decode cX8_against 11 = .ok (.goto 40, 3) := by decide +kernel
theorem dX8_against_14 : decode cX8_against 14 = .ok (.aload_n 0, 1) := by decide +kernel
theorem dX8_against_15 : decode cX8_against 15 = .ok (.getfield 33, 3) := by decide +kernel
theorem dX8_against_18 : decode cX8_against 18 = .ok (.iload_n 1, 1) := by decide +kernel
theorem dX8_against_19 : decode cX8_against 19 = .ok (.iaload, 1) := by decide +kernel
theorem dX8_against_20 : decode cX8_against 20 = .ok (.iload_n 2, 1) := by decide +kernel
theorem dX8_against_21 : decode cX8_against 21 = .ok (.if_icmp .eq 8, 3) := by decide +kernel
theorem dX8_against_24 : decode cX8_against 24 = .ok (.bipush (-7), 2) := by decide +kernel
theorem dX8_against_26 : decode cX8_against 26 = .ok (.goto 25, 3) := by decide +kernel
theorem dX8_against_29 : decode cX8_against 29 = .ok (.iload_n 3, 1) := by decide +kernel
theorem dX8_against_30 : decode cX8_against 30 = .ok (.iconst 0, 1) := by decide +kernel
theorem dX8_against_31 : decode cX8_against 31 = .ok (.aload_n 0, 1) := by decide +kernel
theorem dX8_against_32 : decode cX8_against 32 = .ok (.getfield 36, 3) := by decide +kernel
theorem dX8_against_35 : decode cX8_against 35 = .ok (.iload_n 1, 1) := by decide +kernel
theorem dX8_against_36 : decode cX8_against 36 = .ok (.iaload, 1) := by decide +kernel
theorem dX8_against_37 : decode cX8_against 37 = .ok (.iconst 1, 1) := by decide +kernel
theorem dX8_against_38 : decode cX8_against 38 = .ok (.isub, 1) := by decide +kernel
theorem dX8_against_39 : decode cX8_against 39 = .ok (.invokestatic 116, 3) := by decide +kernel
theorem dX8_against_42 : decode cX8_against 42 = .ok (.ifCond .ne 8, 3) := by decide +kernel
theorem dX8_against_45 : decode cX8_against 45 = .ok (.bipush (-8), 2) := by decide +kernel
theorem dX8_against_47 : decode cX8_against 47 = .ok (.goto 4, 3) := by decide +kernel
theorem dX8_against_50 : decode cX8_against 50 = .ok (.iconst 0, 1) := by decide +kernel
theorem dX8_against_51 : decode cX8_against 51 = .ok (.ireturn, 1) := by decide +kernel
set_option maxRecDepth 20000 in
theorem ggX8_keep_X8_isStrip : GoodIn wsX8_keep wsX8_isStrip := goodIn_r _ [10, 11, 12, 13, 9, 14, 51, 52, 53, 54, 55, 56, 57, 58, 59, 60, 61, 62, 63, 64, 65, 66, 67, 68, 69, 70, 71, 72, 73, 74, 75, 76] (by decide +kernel) (by decide +kernel)
set_option maxRecDepth 20000 in
theorem gX8_keep_X8_isStrip : GoodIn wsX8_keep (wsV RX8 185 RX8 yX8_isStrip wsX8_isStrip) := goodIn_app (goodIn_of _ (by decide +kernel)) ggX8_keep_X8_isStrip
set_option maxRecDepth 20000 in
theorem ggX8_keep_X8_isKind : GoodIn wsX8_keep wsX8_isKind := goodIn_r _ [17, 12, 13, 9, 14] (by decide +kernel) (by decide +kernel)
set_option maxRecDepth 20000 in
theorem gX8_keep_X8_isKind : GoodIn wsX8_keep (va_wsS RX8 147 yX8_isKind wsX8_isKind) := goodIn_app (goodIn_of _ (by decide +kernel)) ggX8_keep_X8_isKind
set_option maxRecDepth 20000 in
theorem ggX8_keep_X8_isRegister : GoodIn wsX8_keep wsX8_isRegister := goodIn_r _ [21, 22, 12, 13, 9, 14, 51, 52, 53, 54, 55, 56, 57, 58, 59, 60, 61, 62, 63, 64, 65, 66, 67, 68, 69, 70, 71, 72, 73, 74, 75, 76] (by decide +kernel) (by decide +kernel)
set_option maxRecDepth 20000 in
theorem gX8_keep_X8_isRegister : GoodIn wsX8_keep (wsV RX8 154 RX8 yX8_isRegister wsX8_isRegister) := goodIn_app (goodIn_of _ (by decide +kernel)) ggX8_keep_X8_isRegister
set_option maxRecDepth 20000 in
theorem ggX8_keep_X8_refuse : GoodIn wsX8_keep wsX8_refuse := goodIn_r _ [26, 1, 27, 51, 52, 53, 54, 55, 56, 57, 58, 59, 60, 61, 62, 63, 64, 65, 66, 67, 68, 69, 70, 71, 72, 73, 74, 75, 76] (by decide +kernel) (by decide +kernel)
set_option maxRecDepth 20000 in
theorem gX8_keep_X8_refuse : GoodIn wsX8_keep (wsV RX8 124 RX8 yX8_refuse wsX8_refuse) := goodIn_app (goodIn_of _ (by decide +kernel)) ggX8_keep_X8_refuse
set_option maxRecDepth 20000 in
theorem ggX8_keep_X8_against : GoodIn wsX8_keep wsX8_against := goodIn_r _ [31, 32, 33, 34, 12, 13, 9, 14, 51, 52, 53, 54, 55, 56, 57, 58, 59, 60, 61, 62, 63, 64, 65, 66, 67, 68, 69, 70, 71, 72, 73, 74, 75, 76] (by decide +kernel) (by decide +kernel)
set_option maxRecDepth 20000 in
theorem gX8_keep_X8_against : GoodIn wsX8_keep (wsV RX8 188 RX8 yX8_against wsX8_against) := goodIn_app (goodIn_of _ (by decide +kernel)) ggX8_keep_X8_against
set_option maxRecDepth 20000 in
theorem ggX8_keep_X8_open : GoodIn wsX8_keep wsX8_open := goodIn_r _ [38, 39, 40, 41, 42, 43, 44, 9, 45, 46, 3, 5, 51, 52, 53, 54, 55, 56, 57, 58, 59, 60, 61, 62, 63, 64, 65, 66, 67, 68, 69, 70, 71, 72, 73, 74, 75, 76] (by decide +kernel) (by decide +kernel)
set_option maxRecDepth 20000 in
theorem gX8_keep_X8_open : GoodIn wsX8_keep (wsV RX8 167 RX8 yX8_open wsX8_open) := goodIn_app (goodIn_of _ (by decide +kernel)) ggX8_keep_X8_open
set_option maxRecDepth 20000 in
theorem ggX8_keep_X8_cast : GoodIn wsX8_keep wsX8_cast := goodIn_r _ [50, 46, 3, 5, 51, 52, 53, 54, 55, 56, 57, 58, 59, 60, 61, 62, 63, 64, 65, 66, 67, 68, 69, 70, 71, 72, 73, 74, 75, 76] (by decide +kernel) (by decide +kernel)
set_option maxRecDepth 20000 in
theorem gX8_keep_X8_cast : GoodIn wsX8_keep (wsV RX8 150 RX8 yX8_cast wsX8_cast) := goodIn_app (goodIn_of _ (by decide +kernel)) ggX8_keep_X8_cast
theorem dX8_keep_0 : decode cX8_keep 0 = .ok (.aload_n 0, 1) := by decide +kernel
theorem dX8_keep_1 : decode cX8_keep 1 = .ok (.iconst 0, 1) := by decide +kernel
theorem dX8_keep_2 : decode cX8_keep 2 = .ok (.putfield 64, 3) := by decide +kernel
theorem dX8_keep_5 : decode cX8_keep 5 = .ok (.aload_n 0, 1) := by decide +kernel
theorem dX8_keep_6 : decode cX8_keep 6 = .ok (.iload_n 1, 1) := by decide +kernel
theorem dX8_keep_7 : decode cX8_keep 7 = .ok (.invokevirtual 185, 3) := by decide +kernel
theorem dX8_keep_10 : decode cX8_keep 10 = .ok (.ifCond .eq 19, 3) := by decide +kernel
theorem dX8_keep_13 : decode cX8_keep 13 = .ok (.iload_n 2, 1) := by decide +kernel
theorem dX8_keep_14 : decode cX8_keep 14 = .ok (.invokestatic 147, 3) := by decide +kernel
theorem dX8_keep_17 : decode cX8_keep 17 = .ok (.ifCond .eq 12, 3) := by decide +kernel
theorem dX8_keep_20 : decode cX8_keep 20 = .ok (.aload_n 0, 1) := by decide +kernel
theorem dX8_keep_21 : decode cX8_keep 21 = .ok (.iload 4, 2) := by decide +kernel
theorem dX8_keep_23 : decode cX8_keep 23 = .ok (.invokevirtual 154, 3) := by decide +kernel
theorem dX8_keep_26 : decode cX8_keep 26 = .ok (.ifCond .ne 10, 3) := by decide +kernel
theorem dX8_keep_29 : decode cX8_keep 29 = .ok (.aload_n 0, 1) := by decide +kernel
theorem dX8_keep_30 : decode cX8_keep 30 = .ok (.bipush (-2), 2) := by decide +kernel
theorem dX8_keep_32 : decode cX8_keep 32 = .ok (.invokevirtual 124, 3) := by decide +kernel
theorem dX8_keep_35 : decode cX8_keep 35 = .ok (.ireturn, 1) := by decide +kernel
theorem dX8_keep_36 : decode cX8_keep 36 = .ok (.aload_n 0, 1) := by decide +kernel
theorem dX8_keep_37 : decode cX8_keep 37 = .ok (.iload_n 1, 1) := by decide +kernel
theorem dX8_keep_38 : decode cX8_keep 38 = .ok (.iload_n 2, 1) := by decide +kernel
theorem dX8_keep_39 : decode cX8_keep 39 = .ok (.iload_n 3, 1) := by decide +kernel
theorem dX8_keep_40 : decode cX8_keep 40 = .ok (.invokevirtual 188, 3) := by decide +kernel
theorem dX8_keep_43 : decode cX8_keep 43 = .ok (.istore 5, 2) := by decide +kernel
theorem dX8_keep_45 : decode cX8_keep 45 = .ok (.iload 5, 2) := by decide +kernel
theorem dX8_keep_47 : decode cX8_keep 47 = .ok (.ifCond .eq 10, 3) := by decide +kernel
theorem dX8_keep_50 : decode cX8_keep 50 = .ok (.aload_n 0, 1) := by decide +kernel
theorem dX8_keep_51 : decode cX8_keep 51 = .ok (.iload 5, 2) := by decide +kernel
theorem dX8_keep_53 : decode cX8_keep 53 = .ok (.invokevirtual 124, 3) := by decide +kernel
theorem dX8_keep_56 : decode cX8_keep 56 = .ok (.ireturn, 1) := by decide +kernel
theorem dX8_keep_57 : decode cX8_keep 57 = .ok (.aload_n 0, 1) := by decide +kernel
theorem dX8_keep_58 : decode cX8_keep 58 = .ok (.iload 4, 2) := by decide +kernel
theorem dX8_keep_60 : decode cX8_keep 60 = .ok (.invokevirtual 167, 3) := by decide +kernel
theorem dX8_keep_63 : decode cX8_keep 63 = .ok (.aload_n 0, 1) := by decide +kernel
theorem dX8_keep_64 : decode cX8_keep 64 = .ok (.iload_n 2, 1) := by decide +kernel
theorem dX8_keep_65 : decode cX8_keep 65 = .ok (.invokevirtual 150, 3) := by decide +kernel
theorem dX8_keep_68 : decode cX8_keep 68 = .ok (.aload_n 0, 1) := by decide +kernel
theorem dX8_keep_69 : decode cX8_keep 69 = .ok (.getfield 43, 3) := by decide +kernel
theorem dX8_keep_72 : decode cX8_keep 72 = .ok (.bipush 16, 2) := by decide +kernel
theorem dX8_keep_74 : decode cX8_keep 74 = .ok (.iload_n 1, 1) := by decide +kernel
theorem dX8_keep_75 : decode cX8_keep 75 = .ok (.imul, 1) := by decide +kernel
theorem dX8_keep_76 : decode cX8_keep 76 = .ok (.iload_n 3, 1) := by decide +kernel
theorem dX8_keep_77 : decode cX8_keep 77 = .ok (.iadd, 1) := by decide +kernel
theorem dX8_keep_78 : decode cX8_keep 78 = .ok (.aload_n 0, 1) := by decide +kernel
theorem dX8_keep_79 : decode cX8_keep 79 = .ok (.getfield 83, 3) := by decide +kernel
theorem dX8_keep_82 : decode cX8_keep 82 = .ok (.lastore, 1) := by decide +kernel
theorem dX8_keep_83 : decode cX8_keep 83 = .ok (.aload_n 0, 1) := by decide +kernel
theorem dX8_keep_84 : decode cX8_keep 84 = .ok (.getfield 46, 3) := by decide +kernel
theorem dX8_keep_87 : decode cX8_keep 87 = .ok (.bipush 16, 2) := by decide +kernel
theorem dX8_keep_89 : decode cX8_keep 89 = .ok (.iload_n 1, 1) := by decide +kernel
theorem dX8_keep_90 : decode cX8_keep 90 = .ok (.imul, 1) := by decide +kernel
theorem dX8_keep_91 : decode cX8_keep 91 = .ok (.iload_n 3, 1) := by decide +kernel
theorem dX8_keep_92 : decode cX8_keep 92 = .ok (.iadd, 1) := by decide +kernel
theorem dX8_keep_93 : decode cX8_keep 93 = .ok (.aload_n 0, 1) := by decide +kernel
theorem dX8_keep_94 : decode cX8_keep 94 = .ok (.getfield 87, 3) := by decide +kernel
theorem dX8_keep_97 : decode cX8_keep 97 = .ok (.dastore, 1) := by decide +kernel
theorem dX8_keep_98 : decode cX8_keep 98 = .ok (.iconst 1, 1) := by decide +kernel
theorem dX8_keep_99 : decode cX8_keep 99 = .ok (.ireturn, 1) := by decide +kernel
set_option maxRecDepth 20000 in
theorem ggX8_kept_X8_isStrip : GoodIn wsX8_kept wsX8_isStrip := goodIn_r _ [8, 9, 10, 11, 7, 12, 63, 64, 65, 66, 67, 68, 69, 70, 71, 72, 73, 74, 75, 76, 77, 78, 79, 80, 81, 82, 83, 84, 85, 86, 87, 88] (by decide +kernel) (by decide +kernel)
set_option maxRecDepth 20000 in
theorem gX8_kept_X8_isStrip : GoodIn wsX8_kept (wsV RX8 185 RX8 yX8_isStrip wsX8_isStrip) := goodIn_app (goodIn_of _ (by decide +kernel)) ggX8_kept_X8_isStrip
set_option maxRecDepth 20000 in
theorem ggX8_kept_X8_isKind : GoodIn wsX8_kept wsX8_isKind := goodIn_r _ [15, 10, 11, 7, 12] (by decide +kernel) (by decide +kernel)
set_option maxRecDepth 20000 in
theorem gX8_kept_X8_isKind : GoodIn wsX8_kept (va_wsS RX8 147 yX8_isKind wsX8_isKind) := goodIn_app (goodIn_of _ (by decide +kernel)) ggX8_kept_X8_isKind
set_option maxRecDepth 20000 in
theorem ggX8_kept_X8_against : GoodIn wsX8_kept wsX8_against := goodIn_r _ [19, 20, 21, 22, 10, 11, 7, 12, 63, 64, 65, 66, 67, 68, 69, 70, 71, 72, 73, 74, 75, 76, 77, 78, 79, 80, 81, 82, 83, 84, 85, 86, 87, 88] (by decide +kernel) (by decide +kernel)
set_option maxRecDepth 20000 in
theorem gX8_kept_X8_against : GoodIn wsX8_kept (wsV RX8 188 RX8 yX8_against wsX8_against) := goodIn_app (goodIn_of _ (by decide +kernel)) ggX8_kept_X8_against
set_option maxRecDepth 20000 in
theorem ggX8_kept_X8_refuse : GoodIn wsX8_kept wsX8_refuse := goodIn_r _ [26, 1, 27, 63, 64, 65, 66, 67, 68, 69, 70, 71, 72, 73, 74, 75, 76, 77, 78, 79, 80, 81, 82, 83, 84, 85, 86, 87, 88] (by decide +kernel) (by decide +kernel)
set_option maxRecDepth 20000 in
theorem gX8_kept_X8_refuse : GoodIn wsX8_kept (wsV RX8 124 RX8 yX8_refuse wsX8_refuse) := goodIn_app (goodIn_of _ (by decide +kernel)) ggX8_kept_X8_refuse
set_option maxRecDepth 20000 in
theorem ggX8_kept_X8_hold : GoodIn wsX8_kept wsX8_hold := goodIn_r _ [31, 32, 33, 34, 63, 64, 65, 66, 67, 68, 69, 70, 71, 72, 73, 74, 75, 76, 77, 78, 79, 80, 81, 82, 83, 84, 85, 86, 87, 88] (by decide +kernel) (by decide +kernel)
set_option maxRecDepth 20000 in
theorem gX8_kept_X8_hold : GoodIn wsX8_kept (wsV RX8 101 RX8 yX8_hold wsX8_hold) := goodIn_app (goodIn_of _ (by decide +kernel)) ggX8_kept_X8_hold
set_option maxRecDepth 20000 in
theorem ggX8_kept_X8_bits : GoodIn wsX8_kept wsX8_bits := goodIn_r _ [38, 32, 33, 34, 39, 40, 41, 42, 43, 44, 45, 46, 47, 48, 49, 50, 51, 52, 53, 54, 55, 56, 57, 58, 59, 60, 61, 62, 63, 64, 65, 66, 67, 68, 69, 70, 71, 72, 73, 74, 75, 76, 77, 78, 79, 80, 81, 82, 83, 84, 85, 86, 87, 88] (by decide +kernel) (by decide +kernel)
set_option maxRecDepth 20000 in
theorem gX8_kept_X8_bits : GoodIn wsX8_kept (wsV RX8 140 RX8 yX8_bits wsX8_bits) := goodIn_app (goodIn_of _ (by decide +kernel)) ggX8_kept_X8_bits
theorem dX8_kept_0 : decode cX8_kept 0 = .ok (.aload_n 0, 1) := by decide +kernel
theorem dX8_kept_1 : decode cX8_kept 1 = .ok (.iconst 0, 1) := by decide +kernel
theorem dX8_kept_2 : decode cX8_kept 2 = .ok (.putfield 64, 3) := by decide +kernel
theorem dX8_kept_5 : decode cX8_kept 5 = .ok (.aload_n 0, 1) := by decide +kernel
theorem dX8_kept_6 : decode cX8_kept 6 = .ok (.iload_n 1, 1) := by decide +kernel
theorem dX8_kept_7 : decode cX8_kept 7 = .ok (.invokevirtual 185, 3) := by decide +kernel
theorem dX8_kept_10 : decode cX8_kept 10 = .ok (.ifCond .eq 10, 3) := by decide +kernel
theorem dX8_kept_13 : decode cX8_kept 13 = .ok (.iload_n 2, 1) := by decide +kernel
theorem dX8_kept_14 : decode cX8_kept 14 = .ok (.invokestatic 147, 3) := by decide +kernel
theorem dX8_kept_17 : decode cX8_kept 17 = .ok (.ifCond .ne 8, 3) := by decide +kernel
theorem dX8_kept_20 : decode cX8_kept 20 = .ok (.bipush (-2), 2) := by decide +kernel
theorem dX8_kept_22 : decode cX8_kept 22 = .ok (.goto 10, 3) := by decide +kernel
theorem dX8_kept_25 : decode cX8_kept 25 = .ok (.aload_n 0, 1) := by decide +kernel
theorem dX8_kept_26 : decode cX8_kept 26 = .ok (.iload_n 1, 1) := by decide +kernel
theorem dX8_kept_27 : decode cX8_kept 27 = .ok (.iload_n 2, 1) := by decide +kernel
theorem dX8_kept_28 : decode cX8_kept 28 = .ok (.iload_n 3, 1) := by decide +kernel
theorem dX8_kept_29 : decode cX8_kept 29 = .ok (.invokevirtual 188, 3) := by decide +kernel
theorem dX8_kept_32 : decode cX8_kept 32 = .ok (.istore 4, 2) := by decide +kernel
theorem dX8_kept_34 : decode cX8_kept 34 = .ok (.iload 4, 2) := by decide +kernel
theorem dX8_kept_36 : decode cX8_kept 36 = .ok (.ifCond .eq 13, 3) := by decide +kernel
theorem dX8_kept_39 : decode cX8_kept 39 = .ok (.aload_n 0, 1) := by decide +kernel
theorem dX8_kept_40 : decode cX8_kept 40 = .ok (.iload 4, 2) := by decide +kernel
theorem dX8_kept_42 : decode cX8_kept 42 = .ok (.invokevirtual 124, 3) := by decide +kernel
theorem dX8_kept_45 : decode cX8_kept 45 = .ok (.istore 4, 2) := by decide +kernel
theorem dX8_kept_47 : decode cX8_kept 47 = .ok (.lconst 0, 1) := by decide +kernel
theorem dX8_kept_48 : decode cX8_kept 48 = .ok (.lreturn, 1) := by decide +kernel
theorem dX8_kept_49 : decode cX8_kept 49 = .ok (.aload_n 0, 1) := by decide +kernel
theorem dX8_kept_50 : decode cX8_kept 50 = .ok (.iload_n 2, 1) := by decide +kernel
theorem dX8_kept_51 : decode cX8_kept 51 = .ok (.aload_n 0, 1) := by decide +kernel
theorem dX8_kept_52 : decode cX8_kept 52 = .ok (.getfield 43, 3) := by decide +kernel
theorem dX8_kept_55 : decode cX8_kept 55 = .ok (.bipush 16, 2) := by decide +kernel
theorem dX8_kept_57 : decode cX8_kept 57 = .ok (.iload_n 1, 1) := by decide +kernel
theorem dX8_kept_58 : decode cX8_kept 58 = .ok (.imul, 1) := by decide +kernel
theorem dX8_kept_59 : decode cX8_kept 59 = .ok (.iload_n 3, 1) := by decide +kernel
theorem dX8_kept_60 : decode cX8_kept 60 = .ok (.iadd, 1) := by decide +kernel
theorem dX8_kept_61 : decode cX8_kept 61 = .ok (.laload, 1) := by decide +kernel
theorem dX8_kept_62 : decode cX8_kept 62 = .ok (.aload_n 0, 1) := by decide +kernel
theorem dX8_kept_63 : decode cX8_kept 63 = .ok (.getfield 46, 3) := by decide +kernel
theorem dX8_kept_66 : decode cX8_kept 66 = .ok (.bipush 16, 2) := by decide +kernel
theorem dX8_kept_68 : decode cX8_kept 68 = .ok (.iload_n 1, 1) := by decide +kernel
theorem dX8_kept_69 : decode cX8_kept 69 = .ok (.imul, 1) := by decide +kernel
theorem dX8_kept_70 : decode cX8_kept 70 = .ok (.iload_n 3, 1) := by decide +kernel
theorem dX8_kept_71 : decode cX8_kept 71 = .ok (.iadd, 1) := by decide +kernel
theorem dX8_kept_72 : decode cX8_kept 72 = .ok (.daload, 1) := by decide +kernel
theorem dX8_kept_73 : decode cX8_kept 73 = .ok (.invokevirtual 101, 3) := by decide +kernel
theorem dX8_kept_76 : decode cX8_kept 76 = .ok (.aload_n 0, 1) := by decide +kernel
theorem dX8_kept_77 : decode cX8_kept 77 = .ok (.invokevirtual 140, 3) := by decide +kernel
theorem dX8_kept_80 : decode cX8_kept 80 = .ok (.lreturn, 1) := by decide +kernel
set_option maxRecDepth 20000 in
theorem ggX8_rests_X8_isStrip : GoodIn wsX8_rests wsX8_isStrip := goodIn_r _ [10, 11, 12, 13, 9, 14, 51, 52, 53, 54, 55, 56, 57, 58, 59, 60, 61, 62, 63, 64, 65, 66, 67, 68, 69, 70, 71, 72, 73, 74, 75, 76] (by decide +kernel) (by decide +kernel)
set_option maxRecDepth 20000 in
theorem gX8_rests_X8_isStrip : GoodIn wsX8_rests (wsV RX8 185 RX8 yX8_isStrip wsX8_isStrip) := goodIn_app (goodIn_of _ (by decide +kernel)) ggX8_rests_X8_isStrip
set_option maxRecDepth 20000 in
theorem ggX8_rests_X8_isRegister : GoodIn wsX8_rests wsX8_isRegister := goodIn_r _ [18, 19, 12, 13, 9, 14, 51, 52, 53, 54, 55, 56, 57, 58, 59, 60, 61, 62, 63, 64, 65, 66, 67, 68, 69, 70, 71, 72, 73, 74, 75, 76] (by decide +kernel) (by decide +kernel)
set_option maxRecDepth 20000 in
theorem gX8_rests_X8_isRegister : GoodIn wsX8_rests (wsV RX8 154 RX8 yX8_isRegister wsX8_isRegister) := goodIn_app (goodIn_of _ (by decide +kernel)) ggX8_rests_X8_isRegister
set_option maxRecDepth 20000 in
theorem ggX8_rests_X8_refuse : GoodIn wsX8_rests wsX8_refuse := goodIn_r _ [23, 1, 24, 51, 52, 53, 54, 55, 56, 57, 58, 59, 60, 61, 62, 63, 64, 65, 66, 67, 68, 69, 70, 71, 72, 73, 74, 75, 76] (by decide +kernel) (by decide +kernel)
set_option maxRecDepth 20000 in
theorem gX8_rests_X8_refuse : GoodIn wsX8_rests (wsV RX8 124 RX8 yX8_refuse wsX8_refuse) := goodIn_app (goodIn_of _ (by decide +kernel)) ggX8_rests_X8_refuse
set_option maxRecDepth 20000 in
theorem ggX8_rests_X8_isEndless : GoodIn wsX8_rests wsX8_isEndless := goodIn_r _ [27, 28, 29] (by decide +kernel) (by decide +kernel)
set_option maxRecDepth 20000 in
theorem gX8_rests_X8_isEndless : GoodIn wsX8_rests (va_wsS RX8 136 yX8_isEndless wsX8_isEndless) := goodIn_app (goodIn_of _ (by decide +kernel)) ggX8_rests_X8_isEndless
set_option maxRecDepth 20000 in
theorem ggX8_rests_X8_narrowed : GoodIn wsX8_rests wsX8_narrowed := goodIn_r _ [32] (by decide +kernel) (by decide +kernel)
set_option maxRecDepth 20000 in
theorem gX8_rests_X8_narrowed : GoodIn wsX8_rests (va_wsS RX8 128 yX8_narrowed wsX8_narrowed) := goodIn_app (goodIn_of _ (by decide +kernel)) ggX8_rests_X8_narrowed
set_option maxRecDepth 20000 in
theorem ggX8_rests_X8_hold : GoodIn wsX8_rests wsX8_hold := goodIn_r _ [36, 37, 38, 39, 51, 52, 53, 54, 55, 56, 57, 58, 59, 60, 61, 62, 63, 64, 65, 66, 67, 68, 69, 70, 71, 72, 73, 74, 75, 76] (by decide +kernel) (by decide +kernel)
set_option maxRecDepth 20000 in
theorem gX8_rests_X8_hold : GoodIn wsX8_rests (wsV RX8 101 RX8 yX8_hold wsX8_hold) := goodIn_app (goodIn_of _ (by decide +kernel)) ggX8_rests_X8_hold
set_option maxRecDepth 20000 in
theorem ggX8_rests_X8_store : GoodIn wsX8_rests wsX8_store := goodIn_r _ [43, 44, 45, 38, 46, 39, 47, 48, 49, 9, 50, 37, 51, 52, 53, 54, 55, 56, 57, 58, 59, 60, 61, 62, 63, 64, 65, 66, 67, 68, 69, 70, 71, 72, 73, 74, 75, 76] (by decide +kernel) (by decide +kernel)
set_option maxRecDepth 20000 in
theorem gX8_rests_X8_store : GoodIn wsX8_rests (wsV RX8 164 RX8 yX8_store wsX8_store) := goodIn_app (goodIn_of _ (by decide +kernel)) ggX8_rests_X8_store
theorem dX8_rests_0 : decode cX8_rests 0 = .ok (.aload_n 0, 1) := by decide +kernel
theorem dX8_rests_1 : decode cX8_rests 1 = .ok (.iconst 0, 1) := by decide +kernel
theorem dX8_rests_2 : decode cX8_rests 2 = .ok (.putfield 64, 3) := by decide +kernel
theorem dX8_rests_5 : decode cX8_rests 5 = .ok (.aload_n 0, 1) := by decide +kernel
theorem dX8_rests_6 : decode cX8_rests 6 = .ok (.iload_n 1, 1) := by decide +kernel
theorem dX8_rests_7 : decode cX8_rests 7 = .ok (.invokevirtual 185, 3) := by decide +kernel
theorem dX8_rests_10 : decode cX8_rests 10 = .ok (.ifCond .eq 11, 3) := by decide +kernel
theorem dX8_rests_13 : decode cX8_rests 13 = .ok (.aload_n 0, 1) := by decide +kernel
theorem dX8_rests_14 : decode cX8_rests 14 = .ok (.iload_n 2, 1) := by decide +kernel
theorem dX8_rests_15 : decode cX8_rests 15 = .ok (.invokevirtual 154, 3) := by decide +kernel
theorem dX8_rests_18 : decode cX8_rests 18 = .ok (.ifCond .ne 10, 3) := by decide +kernel
theorem dX8_rests_21 : decode cX8_rests 21 = .ok (.aload_n 0, 1) := by decide +kernel
theorem dX8_rests_22 : decode cX8_rests 22 = .ok (.bipush (-2), 2) := by decide +kernel
theorem dX8_rests_24 : decode cX8_rests 24 = .ok (.invokevirtual 124, 3) := by decide +kernel
theorem dX8_rests_27 : decode cX8_rests 27 = .ok (.ireturn, 1) := by decide +kernel
theorem dX8_rests_28 : decode cX8_rests 28 = .ok (.aload_n 0, 1) := by decide +kernel
theorem dX8_rests_29 : decode cX8_rests 29 = .ok (.getfield 39, 3) := by decide +kernel
theorem dX8_rests_32 : decode cX8_rests 32 = .ok (.iload_n 1, 1) := by decide +kernel
theorem dX8_rests_33 : decode cX8_rests 33 = .ok (.baload, 1) := by decide +kernel
theorem dX8_rests_34 : decode cX8_rests 34 = .ok (.ifCond .eq 10, 3) := by decide +kernel
theorem dX8_rests_37 : decode cX8_rests 37 = .ok (.aload_n 0, 1) := by decide +kernel
theorem dX8_rests_38 : decode cX8_rests 38 = .ok (.bipush (-10), 2) := by decide +kernel
theorem dX8_rests_40 : decode cX8_rests 40 = .ok (.invokevirtual 124, 3) := by decide +kernel
theorem dX8_rests_43 : decode cX8_rests 43 = .ok (.ireturn, 1) := by decide +kernel
theorem dX8_rests_44 : decode cX8_rests 44 = .ok (.aload_n 0, 1) := by decide +kernel
theorem dX8_rests_45 : decode cX8_rests 45 = .ok (.getfield 33, 3) := by decide +kernel
theorem dX8_rests_48 : decode cX8_rests 48 = .ok (.iload_n 1, 1) := by decide +kernel
theorem dX8_rests_49 : decode cX8_rests 49 = .ok (.iaload, 1) := by decide +kernel
theorem dX8_rests_50 : decode cX8_rests 50 = .ok (.iconst 2, 1) := by decide +kernel
theorem dX8_rests_51 : decode cX8_rests 51 = .ok (.if_icmp .ge 10, 3) := by decide +kernel
theorem dX8_rests_54 : decode cX8_rests 54 = .ok (.aload_n 0, 1) := by decide +kernel
theorem dX8_rests_55 : decode cX8_rests 55 = .ok (.bipush (-7), 2) := by decide +kernel
theorem dX8_rests_57 : decode cX8_rests 57 = .ok (.invokevirtual 124, 3) := by decide +kernel
theorem dX8_rests_60 : decode cX8_rests 60 = .ok (.ireturn, 1) := by decide +kernel
theorem dX8_rests_61 : decode cX8_rests 61 = .ok (.iconst 0, 1) := by decide +kernel
theorem dX8_rests_62 : decode cX8_rests 62 = .ok (.istore_n 3, 1) := by decide +kernel
theorem dX8_rests_63 : decode cX8_rests 63 = .ok (.dconst 0, 1) := by decide +kernel
theorem dX8_rests_64 : decode cX8_rests 64 = .ok (.dstore 4, 2) := by decide +kernel
theorem dX8_rests_66 : decode cX8_rests 66 = .ok (.iconst 0, 1) := by decide +kernel
theorem dX8_rests_67 : decode cX8_rests 67 = .ok (.istore 6, 2) := by decide +kernel
theorem dX8_rests_69 : decode cX8_rests 69 = .ok (.iload 6, 2) := by decide +kernel
theorem dX8_rests_71 : decode cX8_rests 71 = .ok (.iconst 1, 1) := by decide +kernel
theorem dX8_rests_72 : decode cX8_rests 72 = .ok (.iadd, 1) := by decide +kernel
theorem dX8_rests_73 : decode cX8_rests 73 = .ok (.aload_n 0, 1) := by decide +kernel
theorem dX8_rests_74 : decode cX8_rests 74 = .ok (.getfield 36, 3) := by decide +kernel
theorem dX8_rests_77 : decode cX8_rests 77 = .ok (.iload_n 1, 1) := by decide +kernel
theorem dX8_rests_78 : decode cX8_rests 78 = .ok (.iaload, 1) := by decide +kernel
theorem dX8_rests_79 : decode cX8_rests 79 = .ok (.if_icmp .ge 76, 3) := by decide +kernel
theorem dX8_rests_82 : decode cX8_rests 82 = .ok (.aload_n 0, 1) := by decide +kernel
theorem dX8_rests_83 : decode cX8_rests 83 = .ok (.getfield 46, 3) := by decide +kernel
theorem dX8_rests_86 : decode cX8_rests 86 = .ok (.bipush 16, 2) := by decide +kernel
theorem dX8_rests_88 : decode cX8_rests 88 = .ok (.iload_n 1, 1) := by decide +kernel
theorem dX8_rests_89 : decode cX8_rests 89 = .ok (.imul, 1) := by decide +kernel
theorem dX8_rests_90 : decode cX8_rests 90 = .ok (.iload 6, 2) := by decide +kernel
theorem dX8_rests_92 : decode cX8_rests 92 = .ok (.iadd, 1) := by decide +kernel
theorem dX8_rests_93 : decode cX8_rests 93 = .ok (.daload, 1) := by decide +kernel
theorem dX8_rests_94 : decode cX8_rests 94 = .ok (.dstore 7, 2) := by decide +kernel
theorem dX8_rests_96 : decode cX8_rests 96 = .ok (.aload_n 0, 1) := by decide +kernel
theorem dX8_rests_97 : decode cX8_rests 97 = .ok (.getfield 46, 3) := by decide +kernel
theorem dX8_rests_100 : decode cX8_rests 100 = .ok (.bipush 16, 2) := by decide +kernel
theorem dX8_rests_102 : decode cX8_rests 102 = .ok (.iload_n 1, 1) := by decide +kernel
theorem dX8_rests_103 : decode cX8_rests 103 = .ok (.imul, 1) := by decide +kernel
theorem dX8_rests_104 : decode cX8_rests 104 = .ok (.iload 6, 2) := by decide +kernel
theorem dX8_rests_106 : decode cX8_rests 106 = .ok (.iadd, 1) := by decide +kernel
theorem dX8_rests_107 : decode cX8_rests 107 = .ok (.iconst 1, 1) := by decide +kernel
theorem dX8_rests_108 : decode cX8_rests 108 = .ok (.iadd, 1) := by decide +kernel
theorem dX8_rests_109 : decode cX8_rests 109 = .ok (.daload, 1) := by decide +kernel
theorem dX8_rests_110 : decode cX8_rests 110 = .ok (.dstore 9, 2) := by decide +kernel
theorem dX8_rests_112 : decode cX8_rests 112 = .ok (.dload 9, 2) := by decide +kernel
theorem dX8_rests_114 : decode cX8_rests 114 = .ok (.dconst 0, 1) := by decide +kernel
theorem dX8_rests_115 : decode cX8_rests 115 = .ok (.dcmp .l, 1) := by decide +kernel
theorem dX8_rests_116 : decode cX8_rests 116 = .ok (.ifCond .eq 33, 3) := by decide +kernel
theorem dX8_rests_119 : decode cX8_rests 119 = .ok (.dload 7, 2) := by decide +kernel
theorem dX8_rests_121 : decode cX8_rests 121 = .ok (.invokestatic 136, 3) := by decide +kernel
theorem dX8_rests_124 : decode cX8_rests 124 = .ok (.ifCond .ne 25, 3) := by decide +kernel
theorem dX8_rests_127 : decode cX8_rests 127 = .ok (.aload_n 0, 1) := by decide +kernel
theorem dX8_rests_128 : decode cX8_rests 128 = .ok (.getfield 33, 3) := by decide +kernel
theorem dX8_rests_131 : decode cX8_rests 131 = .ok (.iload_n 1, 1) := by decide +kernel
theorem dX8_rests_132 : decode cX8_rests 132 = .ok (.iaload, 1) := by decide +kernel
theorem dX8_rests_133 : decode cX8_rests 133 = .ok (.dload 4, 2) := by decide +kernel
theorem dX8_rests_135 : decode cX8_rests 135 = .ok (.dload 7, 2) := by decide +kernel
theorem dX8_rests_137 : decode cX8_rests 137 = .ok (.dload 9, 2) := by decide +kernel
theorem dX8_rests_139 : decode cX8_rests 139 = .ok (.drem, 1) := by decide +kernel
theorem dX8_rests_140 : decode cX8_rests 140 = .ok (.dadd, 1) := by decide +kernel
theorem dX8_rests_141 : decode cX8_rests 141 = .ok (.invokestatic 128, 3) := by decide +kernel
theorem dX8_rests_144 : decode cX8_rests 144 = .ok (.dstore 4, 2) := by decide +kernel
theorem dX8_rests_146 : decode cX8_rests 146 = .ok (.iinc 3 1, 3) := by decide +kernel
theorem dX8_rests_149 : decode cX8_rests 149 = .ok (.iinc 6 1, 3) := by decide +kernel
theorem dX8_rests_152 : decode cX8_rests 152 = .ok (.goto (-83), 3) := by decide +kernel
theorem dX8_rests_155 : decode cX8_rests 155 = .ok (.aload_n 0, 1) := by decide +kernel
theorem dX8_rests_156 : decode cX8_rests 156 = .ok (.aload_n 0, 1) := by decide +kernel
theorem dX8_rests_157 : decode cX8_rests 157 = .ok (.getfield 33, 3) := by decide +kernel
theorem dX8_rests_160 : decode cX8_rests 160 = .ok (.iload_n 1, 1) := by decide +kernel
theorem dX8_rests_161 : decode cX8_rests 161 = .ok (.iaload, 1) := by decide +kernel
theorem dX8_rests_162 : decode cX8_rests 162 = .ok (.lconst 0, 1) := by decide +kernel
theorem dX8_rests_163 : decode cX8_rests 163 = .ok (.dload 4, 2) := by decide +kernel
theorem dX8_rests_165 : decode cX8_rests 165 = .ok (.invokevirtual 101, 3) := by decide +kernel
theorem dX8_rests_168 : decode cX8_rests 168 = .ok (.aload_n 0, 1) := by decide +kernel
theorem dX8_rests_169 : decode cX8_rests 169 = .ok (.iload_n 2, 1) := by decide +kernel
theorem dX8_rests_170 : decode cX8_rests 170 = .ok (.invokevirtual 164, 3) := by decide +kernel
theorem dX8_rests_173 : decode cX8_rests 173 = .ok (.iload_n 3, 1) := by decide +kernel
theorem dX8_rests_174 : decode cX8_rests 174 = .ok (.ireturn, 1) := by decide +kernel
set_option maxRecDepth 20000 in
theorem ggX8_pointer_X8_isIn : GoodIn wsX8_pointer wsX8_isIn := goodIn_r _ [8] (by decide +kernel) (by decide +kernel)
set_option maxRecDepth 20000 in
theorem gX8_pointer_X8_isIn : GoodIn wsX8_pointer (va_wsS RX8 116 yX8_isIn wsX8_isIn) := goodIn_app (goodIn_of _ (by decide +kernel)) ggX8_pointer_X8_isIn
set_option maxRecDepth 20000 in
theorem ggX8_pointer_X8_isWheel : GoodIn wsX8_pointer wsX8_isWheel := goodIn_r _ [12, 13, 5, 6, 7, 8, 19, 20, 21, 22, 23, 24, 25, 26, 27, 28, 29, 30, 31, 32, 33, 34, 35, 36, 37, 38, 39, 40, 41, 42, 43, 44] (by decide +kernel) (by decide +kernel)
set_option maxRecDepth 20000 in
theorem gX8_pointer_X8_isWheel : GoodIn wsX8_pointer (wsV RX8 132 RX8 yX8_isWheel wsX8_isWheel) := goodIn_app (goodIn_of _ (by decide +kernel)) ggX8_pointer_X8_isWheel
set_option maxRecDepth 20000 in
theorem ggX8_pointer_X8_refuse : GoodIn wsX8_pointer wsX8_refuse := goodIn_r _ [17, 1, 18, 19, 20, 21, 22, 23, 24, 25, 26, 27, 28, 29, 30, 31, 32, 33, 34, 35, 36, 37, 38, 39, 40, 41, 42, 43, 44] (by decide +kernel) (by decide +kernel)
set_option maxRecDepth 20000 in
theorem gX8_pointer_X8_refuse : GoodIn wsX8_pointer (wsV RX8 124 RX8 yX8_refuse wsX8_refuse) := goodIn_app (goodIn_of _ (by decide +kernel)) ggX8_pointer_X8_refuse
theorem dX8_pointer_0 : decode cX8_pointer 0 = .ok (.aload_n 0, 1) := by decide +kernel
theorem dX8_pointer_1 : decode cX8_pointer 1 = .ok (.iconst 0, 1) := by decide +kernel
theorem dX8_pointer_2 : decode cX8_pointer 2 = .ok (.putfield 64, 3) := by decide +kernel
theorem dX8_pointer_5 : decode cX8_pointer 5 = .ok (.iload_n 1, 1) := by decide +kernel
theorem dX8_pointer_6 : decode cX8_pointer 6 = .ok (.iconst 0, 1) := by decide +kernel
theorem dX8_pointer_7 : decode cX8_pointer 7 = .ok (.iconst 3, 1) := by decide +kernel
theorem dX8_pointer_8 : decode cX8_pointer 8 = .ok (.invokestatic 116, 3) := by decide +kernel
theorem dX8_pointer_11 : decode cX8_pointer 11 = .ok (.ifCond .eq 11, 3) := by decide +kernel
theorem dX8_pointer_14 : decode cX8_pointer 14 = .ok (.aload_n 0, 1) := by decide +kernel
theorem dX8_pointer_15 : decode cX8_pointer 15 = .ok (.iload_n 2, 1) := by decide +kernel
theorem dX8_pointer_16 : decode cX8_pointer 16 = .ok (.invokevirtual 132, 3) := by decide +kernel
theorem dX8_pointer_19 : decode cX8_pointer 19 = .ok (.ifCond .ne 10, 3) := by decide +kernel
theorem dX8_pointer_22 : decode cX8_pointer 22 = .ok (.aload_n 0, 1) := by decide +kernel
theorem dX8_pointer_23 : decode cX8_pointer 23 = .ok (.bipush (-2), 2) := by decide +kernel
theorem dX8_pointer_25 : decode cX8_pointer 25 = .ok (.invokevirtual 124, 3) := by decide +kernel
theorem dX8_pointer_28 : decode cX8_pointer 28 = .ok (.ireturn, 1) := by decide +kernel
theorem dX8_pointer_29 : decode cX8_pointer 29 = .ok (.aload_n 0, 1) := by decide +kernel
theorem dX8_pointer_30 : decode cX8_pointer 30 = .ok (.getfield 192, 3) := by decide +kernel
theorem dX8_pointer_33 : decode cX8_pointer 33 = .ok (.bipush 12, 2) := by decide +kernel
theorem dX8_pointer_35 : decode cX8_pointer 35 = .ok (.if_icmp .ne 10, 3) := by decide +kernel
theorem dX8_pointer_38 : decode cX8_pointer 38 = .ok (.aload_n 0, 1) := by decide +kernel
theorem dX8_pointer_39 : decode cX8_pointer 39 = .ok (.bipush (-3), 2) := by decide +kernel
theorem dX8_pointer_41 : decode cX8_pointer 41 = .ok (.invokevirtual 124, 3) := by decide +kernel
theorem dX8_pointer_44 : decode cX8_pointer 44 = .ok (.ireturn, 1) := by decide +kernel
theorem dX8_pointer_45 : decode cX8_pointer 45 = .ok (.aload_n 0, 1) := by decide +kernel
theorem dX8_pointer_46 : decode cX8_pointer 46 = .ok (.getfield 49, 3) := by decide +kernel
theorem dX8_pointer_49 : decode cX8_pointer 49 = .ok (.aload_n 0, 1) := by decide +kernel
theorem dX8_pointer_50 : decode cX8_pointer 50 = .ok (.getfield 192, 3) := by decide +kernel
theorem dX8_pointer_53 : decode cX8_pointer 53 = .ok (.iload_n 1, 1) := by decide +kernel
theorem dX8_pointer_54 : decode cX8_pointer 54 = .ok (.iastore, 1) := by decide +kernel
theorem dX8_pointer_55 : decode cX8_pointer 55 = .ok (.aload_n 0, 1) := by decide +kernel
theorem dX8_pointer_56 : decode cX8_pointer 56 = .ok (.getfield 52, 3) := by decide +kernel
theorem dX8_pointer_59 : decode cX8_pointer 59 = .ok (.aload_n 0, 1) := by decide +kernel
theorem dX8_pointer_60 : decode cX8_pointer 60 = .ok (.getfield 192, 3) := by decide +kernel
theorem dX8_pointer_63 : decode cX8_pointer 63 = .ok (.iload_n 2, 1) := by decide +kernel
theorem dX8_pointer_64 : decode cX8_pointer 64 = .ok (.iastore, 1) := by decide +kernel
theorem dX8_pointer_65 : decode cX8_pointer 65 = .ok (.aload_n 0, 1) := by decide +kernel
theorem dX8_pointer_66 : decode cX8_pointer 66 = .ok (.dup, 1) := by decide +kernel
theorem dX8_pointer_67 : decode cX8_pointer 67 = .ok (.getfield 192, 3) := by decide +kernel
theorem dX8_pointer_70 : decode cX8_pointer 70 = .ok (.iconst 1, 1) := by decide +kernel
theorem dX8_pointer_71 : decode cX8_pointer 71 = .ok (.iadd, 1) := by decide +kernel
theorem dX8_pointer_72 : decode cX8_pointer 72 = .ok (.putfield 192, 3) := by decide +kernel
theorem dX8_pointer_75 : decode cX8_pointer 75 = .ok (.aload_n 0, 1) := by decide +kernel
theorem dX8_pointer_76 : decode cX8_pointer 76 = .ok (.getfield 192, 3) := by decide +kernel
theorem dX8_pointer_79 : decode cX8_pointer 79 = .ok (.iconst 1, 1) := by decide +kernel
theorem dX8_pointer_80 : decode cX8_pointer 80 = .ok (.isub, 1) := by decide +kernel
theorem dX8_pointer_81 : decode cX8_pointer 81 = .ok (.ireturn, 1) := by decide +kernel
set_option maxRecDepth 20000 in
theorem ggX8_stand_X8_isIn : GoodIn wsX8_stand wsX8_isIn := goodIn_r _ [9] (by decide +kernel) (by decide +kernel)
set_option maxRecDepth 20000 in
theorem gX8_stand_X8_isIn : GoodIn wsX8_stand (va_wsS RX8 116 yX8_isIn wsX8_isIn) := goodIn_app (goodIn_of _ (by decide +kernel)) ggX8_stand_X8_isIn
set_option maxRecDepth 20000 in
theorem ggX8_stand_X8_refuse : GoodIn wsX8_stand wsX8_refuse := goodIn_r _ [13, 1, 14, 15, 16, 17, 18, 19, 20, 21, 22, 23, 24, 25, 26, 27, 28, 29, 30, 31, 32, 33, 34, 35, 36, 37, 38, 39, 40] (by decide +kernel) (by decide +kernel)
set_option maxRecDepth 20000 in
theorem gX8_stand_X8_refuse : GoodIn wsX8_stand (wsV RX8 124 RX8 yX8_refuse wsX8_refuse) := goodIn_app (goodIn_of _ (by decide +kernel)) ggX8_stand_X8_refuse
theorem dX8_stand_0 : decode cX8_stand 0 = .ok (.aload_n 0, 1) := by decide +kernel
theorem dX8_stand_1 : decode cX8_stand 1 = .ok (.iconst 0, 1) := by decide +kernel
theorem dX8_stand_2 : decode cX8_stand 2 = .ok (.putfield 64, 3) := by decide +kernel
theorem dX8_stand_5 : decode cX8_stand 5 = .ok (.iload_n 1, 1) := by decide +kernel
theorem dX8_stand_6 : decode cX8_stand 6 = .ok (.iconst 0, 1) := by decide +kernel
theorem dX8_stand_7 : decode cX8_stand 7 = .ok (.iconst 3, 1) := by decide +kernel
theorem dX8_stand_8 : decode cX8_stand 8 = .ok (.invokestatic 116, 3) := by decide +kernel
theorem dX8_stand_11 : decode cX8_stand 11 = .ok (.ifCond .eq 13, 3) := by decide +kernel
theorem dX8_stand_14 : decode cX8_stand 14 = .ok (.iload_n 2, 1) := by decide +kernel
theorem dX8_stand_15 : decode cX8_stand 15 = .ok (.iconst 1, 1) := by decide +kernel
theorem dX8_stand_16 : decode cX8_stand 16 = .ok (.bipush 6, 2) := by decide +kernel
theorem dX8_stand_18 : decode cX8_stand 18 = .ok (.invokestatic 116, 3) := by decide +kernel
theorem dX8_stand_21 : decode cX8_stand 21 = .ok (.ifCond .ne 10, 3) := by decide +kernel
theorem dX8_stand_24 : decode cX8_stand 24 = .ok (.aload_n 0, 1) := by decide +kernel
theorem dX8_stand_25 : decode cX8_stand 25 = .ok (.bipush (-2), 2) := by decide +kernel
theorem dX8_stand_27 : decode cX8_stand 27 = .ok (.invokevirtual 124, 3) := by decide +kernel
theorem dX8_stand_30 : decode cX8_stand 30 = .ok (.ireturn, 1) := by decide +kernel
theorem dX8_stand_31 : decode cX8_stand 31 = .ok (.aload_n 0, 1) := by decide +kernel
theorem dX8_stand_32 : decode cX8_stand 32 = .ok (.getfield 195, 3) := by decide +kernel
theorem dX8_stand_35 : decode cX8_stand 35 = .ok (.bipush 8, 2) := by decide +kernel
theorem dX8_stand_37 : decode cX8_stand 37 = .ok (.if_icmp .ne 10, 3) := by decide +kernel
theorem dX8_stand_40 : decode cX8_stand 40 = .ok (.aload_n 0, 1) := by decide +kernel
theorem dX8_stand_41 : decode cX8_stand 41 = .ok (.bipush (-3), 2) := by decide +kernel
theorem dX8_stand_43 : decode cX8_stand 43 = .ok (.invokevirtual 124, 3) := by decide +kernel
theorem dX8_stand_46 : decode cX8_stand 46 = .ok (.ireturn, 1) := by decide +kernel
theorem dX8_stand_47 : decode cX8_stand 47 = .ok (.aload_n 0, 1) := by decide +kernel
theorem dX8_stand_48 : decode cX8_stand 48 = .ok (.getfield 55, 3) := by decide +kernel
theorem dX8_stand_51 : decode cX8_stand 51 = .ok (.aload_n 0, 1) := by decide +kernel
theorem dX8_stand_52 : decode cX8_stand 52 = .ok (.getfield 195, 3) := by decide +kernel
theorem dX8_stand_55 : decode cX8_stand 55 = .ok (.iload_n 1, 1) := by decide +kernel
theorem dX8_stand_56 : decode cX8_stand 56 = .ok (.iastore, 1) := by decide +kernel
theorem dX8_stand_57 : decode cX8_stand 57 = .ok (.aload_n 0, 1) := by decide +kernel
theorem dX8_stand_58 : decode cX8_stand 58 = .ok (.getfield 58, 3) := by decide +kernel
theorem dX8_stand_61 : decode cX8_stand 61 = .ok (.aload_n 0, 1) := by decide +kernel
theorem dX8_stand_62 : decode cX8_stand 62 = .ok (.getfield 195, 3) := by decide +kernel
theorem dX8_stand_65 : decode cX8_stand 65 = .ok (.iload_n 2, 1) := by decide +kernel
theorem dX8_stand_66 : decode cX8_stand 66 = .ok (.iastore, 1) := by decide +kernel
theorem dX8_stand_67 : decode cX8_stand 67 = .ok (.iconst 0, 1) := by decide +kernel
theorem dX8_stand_68 : decode cX8_stand 68 = .ok (.istore_n 3, 1) := by decide +kernel
theorem dX8_stand_69 : decode cX8_stand 69 = .ok (.iload_n 3, 1) := by decide +kernel
theorem dX8_stand_70 : decode cX8_stand 70 = .ok (.bipush 6, 2) := by decide +kernel
theorem dX8_stand_72 : decode cX8_stand 72 = .ok (.if_icmp .ge 24, 3) := by decide +kernel
theorem dX8_stand_75 : decode cX8_stand 75 = .ok (.aload_n 0, 1) := by decide +kernel
theorem dX8_stand_76 : decode cX8_stand 76 = .ok (.getfield 61, 3) := by decide +kernel
theorem dX8_stand_79 : decode cX8_stand 79 = .ok (.bipush 6, 2) := by decide +kernel
theorem dX8_stand_81 : decode cX8_stand 81 = .ok (.aload_n 0, 1) := by decide +kernel
theorem dX8_stand_82 : decode cX8_stand 82 = .ok (.getfield 195, 3) := by decide +kernel
theorem dX8_stand_85 : decode cX8_stand 85 = .ok (.imul, 1) := by decide +kernel
theorem dX8_stand_86 : decode cX8_stand 86 = .ok (.iload_n 3, 1) := by decide +kernel
theorem dX8_stand_87 : decode cX8_stand 87 = .ok (.iadd, 1) := by decide +kernel
theorem dX8_stand_88 : decode cX8_stand 88 = .ok (.iconst (-1), 1) := by decide +kernel
theorem dX8_stand_89 : decode cX8_stand 89 = .ok (.iastore, 1) := by decide +kernel
theorem dX8_stand_90 : decode cX8_stand 90 = .ok (.iinc 3 1, 3) := by decide +kernel
theorem dX8_stand_93 : decode cX8_stand 93 = .ok (.goto (-24), 3) := by decide +kernel
theorem dX8_stand_96 : decode cX8_stand 96 = .ok (.aload_n 0, 1) := by decide +kernel
theorem dX8_stand_97 : decode cX8_stand 97 = .ok (.dup, 1) := by decide +kernel
theorem dX8_stand_98 : decode cX8_stand 98 = .ok (.getfield 195, 3) := by decide +kernel
theorem dX8_stand_101 : decode cX8_stand 101 = .ok (.iconst 1, 1) := by decide +kernel
theorem dX8_stand_102 : decode cX8_stand 102 = .ok (.iadd, 1) := by decide +kernel
theorem dX8_stand_103 : decode cX8_stand 103 = .ok (.putfield 195, 3) := by decide +kernel
theorem dX8_stand_106 : decode cX8_stand 106 = .ok (.aload_n 0, 1) := by decide +kernel
theorem dX8_stand_107 : decode cX8_stand 107 = .ok (.getfield 195, 3) := by decide +kernel
theorem dX8_stand_110 : decode cX8_stand 110 = .ok (.iconst 1, 1) := by decide +kernel
theorem dX8_stand_111 : decode cX8_stand 111 = .ok (.isub, 1) := by decide +kernel
theorem dX8_stand_112 : decode cX8_stand 112 = .ok (.ireturn, 1) := by decide +kernel
set_option maxRecDepth 20000 in
theorem ggX8_isStand_X8_isIn : GoodIn wsX8_isStand wsX8_isIn := goodIn_r _ [5] (by decide +kernel) (by decide +kernel)
set_option maxRecDepth 20000 in
theorem gX8_isStand_X8_isIn : GoodIn wsX8_isStand (va_wsS RX8 116 yX8_isIn wsX8_isIn) := goodIn_app (goodIn_of _ (by decide +kernel)) ggX8_isStand_X8_isIn
theorem dX8_isStand_0 : decode cX8_isStand 0 = .ok (.iload_n 1, 1) := by decide +kernel
theorem dX8_isStand_1 : decode cX8_isStand 1 = .ok (.iconst 0, 1) := by decide +kernel
theorem dX8_isStand_2 : decode cX8_isStand 2 = .ok (.aload_n 0, 1) := by decide +kernel
theorem dX8_isStand_3 : decode cX8_isStand 3 = .ok (.getfield 195, 3) := by decide +kernel
theorem dX8_isStand_6 : decode cX8_isStand 6 = .ok (.iconst 1, 1) := by decide +kernel
theorem dX8_isStand_7 : decode cX8_isStand 7 = .ok (.isub, 1) := by decide +kernel
theorem dX8_isStand_8 : decode cX8_isStand 8 = .ok (.invokestatic 116, 3) := by decide +kernel
theorem dX8_isStand_11 : decode cX8_isStand 11 = .ok (.ireturn, 1) := by decide +kernel
set_option maxRecDepth 20000 in
theorem ggX8_isPointer_X8_isIn : GoodIn wsX8_isPointer wsX8_isIn := goodIn_r _ [5] (by decide +kernel) (by decide +kernel)
set_option maxRecDepth 20000 in
theorem gX8_isPointer_X8_isIn : GoodIn wsX8_isPointer (va_wsS RX8 116 yX8_isIn wsX8_isIn) := goodIn_app (goodIn_of _ (by decide +kernel)) ggX8_isPointer_X8_isIn
theorem dX8_isPointer_0 : decode cX8_isPointer 0 = .ok (.iload_n 1, 1) := by decide +kernel
theorem dX8_isPointer_1 : decode cX8_isPointer 1 = .ok (.iconst 0, 1) := by decide +kernel
theorem dX8_isPointer_2 : decode cX8_isPointer 2 = .ok (.aload_n 0, 1) := by decide +kernel
theorem dX8_isPointer_3 : decode cX8_isPointer 3 = .ok (.getfield 192, 3) := by decide +kernel
theorem dX8_isPointer_6 : decode cX8_isPointer 6 = .ok (.iconst 1, 1) := by decide +kernel
theorem dX8_isPointer_7 : decode cX8_isPointer 7 = .ok (.isub, 1) := by decide +kernel
theorem dX8_isPointer_8 : decode cX8_isPointer 8 = .ok (.invokestatic 116, 3) := by decide +kernel
theorem dX8_isPointer_11 : decode cX8_isPointer 11 = .ok (.ireturn, 1) := by decide +kernel
set_option maxRecDepth 20000 in
theorem ggX8_holds_X8_isIn : GoodIn wsX8_holds wsX8_isIn := goodIn_r _ [4] (by decide +kernel) (by decide +kernel)
set_option maxRecDepth 20000 in
theorem gX8_holds_X8_isIn : GoodIn wsX8_holds (va_wsS RX8 116 yX8_isIn wsX8_isIn) := goodIn_app (goodIn_of _ (by decide +kernel)) ggX8_holds_X8_isIn
theorem dX8_holds_0 : decode cX8_holds 0 = .ok (.iload_n 0, 1) := by decide +kernel
theorem dX8_holds_1 : decode cX8_holds 1 = .ok (.iconst 3, 1) := by decide +kernel
theorem dX8_holds_2 : decode cX8_holds 2 = .ok (.if_icmp .eq 36, 3) := by decide +kernel
theorem dX8_holds_5 : decode cX8_holds 5 = .ok (.iload_n 0, 1) := by decide +kernel
theorem dX8_holds_6 : decode cX8_holds 6 = .ok (.ifCond .ne 8, 3) := by decide +kernel
theorem dX8_holds_9 : decode cX8_holds 9 = .ok (.iload_n 1, 1) := by decide +kernel
theorem dX8_holds_10 : decode cX8_holds 10 = .ok (.iconst 3, 1) := by decide +kernel
theorem dX8_holds_11 : decode cX8_holds 11 = .ok (.if_icmp .lt 27, 3) := by decide +kernel
theorem dX8_holds_14 : decode cX8_holds 14 = .ok (.iload_n 0, 1) := by decide +kernel
theorem dX8_holds_15 : decode cX8_holds 15 = .ok (.iconst 1, 1) := by decide +kernel
theorem dX8_holds_16 : decode cX8_holds 16 = .ok (.if_icmp .ne 12, 3) := by decide +kernel
theorem dX8_holds_19 : decode cX8_holds 19 = .ok (.iload_n 1, 1) := by decide +kernel
theorem dX8_holds_20 : decode cX8_holds 20 = .ok (.iconst 1, 1) := by decide +kernel
theorem dX8_holds_21 : decode cX8_holds 21 = .ok (.iconst 2, 1) := by decide +kernel
theorem dX8_holds_22 : decode cX8_holds 22 = .ok (.invokestatic 116, 3) := by decide +kernel
theorem dX8_holds_25 : decode cX8_holds 25 = .ok (.ifCond .ne 13, 3) := by decide +kernel
theorem dX8_holds_28 : decode cX8_holds 28 = .ok (.iload_n 0, 1) := by decide +kernel
theorem dX8_holds_29 : decode cX8_holds 29 = .ok (.iconst 2, 1) := by decide +kernel
theorem dX8_holds_30 : decode cX8_holds 30 = .ok (.if_icmp .ne 12, 3) := by decide +kernel
theorem dX8_holds_33 : decode cX8_holds 33 = .ok (.iload_n 1, 1) := by decide +kernel
theorem dX8_holds_34 : decode cX8_holds 34 = .ok (.iconst 2, 1) := by decide +kernel
theorem dX8_holds_35 : decode cX8_holds 35 = .ok (.if_icmp .ne 7, 3) := by decide +kernel
theorem dX8_holds_38 : decode cX8_holds 38 = .ok (.iconst 1, 1) := by decide +kernel
theorem dX8_holds_39 : decode cX8_holds 39 = .ok (.goto 4, 3) := by decide +kernel
theorem dX8_holds_42 : decode cX8_holds 42 = .ok (.iconst 0, 1) := by decide +kernel
theorem dX8_holds_43 : decode cX8_holds 43 = .ok (.ireturn, 1) := by decide +kernel
set_option maxRecDepth 20000 in
theorem ggX8_lay_X8_isIn : GoodIn wsX8_lay wsX8_isIn := goodIn_r _ [8] (by decide +kernel) (by decide +kernel)
set_option maxRecDepth 20000 in
theorem gX8_lay_X8_isIn : GoodIn wsX8_lay (va_wsS RX8 116 yX8_isIn wsX8_isIn) := goodIn_app (goodIn_of _ (by decide +kernel)) ggX8_lay_X8_isIn
set_option maxRecDepth 20000 in
theorem ggX8_lay_X8_refuse : GoodIn wsX8_lay wsX8_refuse := goodIn_r _ [12, 13, 14, 18, 19, 20, 21, 22, 23, 24, 25, 26, 27, 28, 29, 30, 31, 32, 33, 34, 35, 36, 37, 38, 39, 40, 41, 42, 43] (by decide +kernel) (by decide +kernel)
set_option maxRecDepth 20000 in
theorem gX8_lay_X8_refuse : GoodIn wsX8_lay (wsV RX8 124 RX8 yX8_refuse wsX8_refuse) := goodIn_app (goodIn_of _ (by decide +kernel)) ggX8_lay_X8_refuse
set_option maxRecDepth 20000 in
theorem ggX8_lay_X8_holds : GoodIn wsX8_lay wsX8_holds := goodIn_r _ [17, 5, 6, 7, 8] (by decide +kernel) (by decide +kernel)
set_option maxRecDepth 20000 in
theorem gX8_lay_X8_holds : GoodIn wsX8_lay (va_wsS RX8 198 yX8_holds wsX8_holds) := goodIn_app (goodIn_of _ (by decide +kernel)) ggX8_lay_X8_holds
theorem dX8_lay_0 : decode cX8_lay 0 = .ok (.iload_n 2, 1) := by decide +kernel
theorem dX8_lay_1 : decode cX8_lay 1 = .ok (.iconst 0, 1) := by decide +kernel
theorem dX8_lay_2 : decode cX8_lay 2 = .ok (.aload_n 0, 1) := by decide +kernel
theorem dX8_lay_3 : decode cX8_lay 3 = .ok (.getfield 58, 3) := by decide +kernel
theorem dX8_lay_6 : decode cX8_lay 6 = .ok (.iload_n 1, 1) := by decide +kernel
theorem dX8_lay_7 : decode cX8_lay 7 = .ok (.iaload, 1) := by decide +kernel
theorem dX8_lay_8 : decode cX8_lay 8 = .ok (.iconst 1, 1) := by decide +kernel
theorem dX8_lay_9 : decode cX8_lay 9 = .ok (.isub, 1) := by decide +kernel
theorem dX8_lay_10 : decode cX8_lay 10 = .ok (.invokestatic 116, 3) := by decide +kernel
theorem dX8_lay_13 : decode cX8_lay 13 = .ok (.ifCond .ne 10, 3) := by decide +kernel
theorem dX8_lay_16 : decode cX8_lay 16 = .ok (.aload_n 0, 1) := by decide +kernel
theorem dX8_lay_17 : decode cX8_lay 17 = .ok (.bipush (-8), 2) := by decide +kernel
theorem dX8_lay_19 : decode cX8_lay 19 = .ok (.invokevirtual 124, 3) := by decide +kernel
theorem dX8_lay_22 : decode cX8_lay 22 = .ok (.ireturn, 1) := by decide +kernel
theorem dX8_lay_23 : decode cX8_lay 23 = .ok (.iload_n 3, 1) := by decide +kernel
theorem dX8_lay_24 : decode cX8_lay 24 = .ok (.iconst (-1), 1) := by decide +kernel
theorem dX8_lay_25 : decode cX8_lay 25 = .ok (.if_icmp .eq 28, 3) := by decide +kernel
theorem dX8_lay_28 : decode cX8_lay 28 = .ok (.aload_n 0, 1) := by decide +kernel
theorem dX8_lay_29 : decode cX8_lay 29 = .ok (.getfield 55, 3) := by decide +kernel
theorem dX8_lay_32 : decode cX8_lay 32 = .ok (.iload_n 1, 1) := by decide +kernel
theorem dX8_lay_33 : decode cX8_lay 33 = .ok (.iaload, 1) := by decide +kernel
theorem dX8_lay_34 : decode cX8_lay 34 = .ok (.aload_n 0, 1) := by decide +kernel
theorem dX8_lay_35 : decode cX8_lay 35 = .ok (.getfield 49, 3) := by decide +kernel
theorem dX8_lay_38 : decode cX8_lay 38 = .ok (.iload_n 3, 1) := by decide +kernel
theorem dX8_lay_39 : decode cX8_lay 39 = .ok (.iaload, 1) := by decide +kernel
theorem dX8_lay_40 : decode cX8_lay 40 = .ok (.invokestatic 198, 3) := by decide +kernel
theorem dX8_lay_43 : decode cX8_lay 43 = .ok (.ifCond .ne 10, 3) := by decide +kernel
theorem dX8_lay_46 : decode cX8_lay 46 = .ok (.aload_n 0, 1) := by decide +kernel
theorem dX8_lay_47 : decode cX8_lay 47 = .ok (.bipush (-9), 2) := by decide +kernel
theorem dX8_lay_49 : decode cX8_lay 49 = .ok (.invokevirtual 124, 3) := by decide +kernel
theorem dX8_lay_52 : decode cX8_lay 52 = .ok (.ireturn, 1) := by decide +kernel
theorem dX8_lay_53 : decode cX8_lay 53 = .ok (.aload_n 0, 1) := by decide +kernel
theorem dX8_lay_54 : decode cX8_lay 54 = .ok (.getfield 61, 3) := by decide +kernel
theorem dX8_lay_57 : decode cX8_lay 57 = .ok (.bipush 6, 2) := by decide +kernel
theorem dX8_lay_59 : decode cX8_lay 59 = .ok (.iload_n 1, 1) := by decide +kernel
theorem dX8_lay_60 : decode cX8_lay 60 = .ok (.imul, 1) := by decide +kernel
theorem dX8_lay_61 : decode cX8_lay 61 = .ok (.iload_n 2, 1) := by decide +kernel
theorem dX8_lay_62 : decode cX8_lay 62 = .ok (.iadd, 1) := by decide +kernel
theorem dX8_lay_63 : decode cX8_lay 63 = .ok (.iload_n 3, 1) := by decide +kernel
theorem dX8_lay_64 : decode cX8_lay 64 = .ok (.iastore, 1) := by decide +kernel
theorem dX8_lay_65 : decode cX8_lay 65 = .ok (.iconst 1, 1) := by decide +kernel
theorem dX8_lay_66 : decode cX8_lay 66 = .ok (.ireturn, 1) := by decide +kernel
set_option maxRecDepth 20000 in
theorem ggX8_set_X8_isStand : GoodIn wsX8_set wsX8_isStand := goodIn_r _ [8, 9, 10, 11, 7, 12, 32, 33, 34, 35, 36, 37, 38, 39, 40, 41, 42, 43, 44, 45, 46, 47, 48, 49, 50, 51, 52, 53, 54, 55, 56, 57] (by decide +kernel) (by decide +kernel)
set_option maxRecDepth 20000 in
theorem gX8_set_X8_isStand : GoodIn wsX8_set (wsV RX8 202 RX8 yX8_isStand wsX8_isStand) := goodIn_app (goodIn_of _ (by decide +kernel)) ggX8_set_X8_isStand
set_option maxRecDepth 20000 in
theorem ggX8_set_X8_isPointer : GoodIn wsX8_set wsX8_isPointer := goodIn_r _ [16, 17, 10, 11, 7, 12, 32, 33, 34, 35, 36, 37, 38, 39, 40, 41, 42, 43, 44, 45, 46, 47, 48, 49, 50, 51, 52, 53, 54, 55, 56, 57] (by decide +kernel) (by decide +kernel)
set_option maxRecDepth 20000 in
theorem gX8_set_X8_isPointer : GoodIn wsX8_set (wsV RX8 205 RX8 yX8_isPointer wsX8_isPointer) := goodIn_app (goodIn_of _ (by decide +kernel)) ggX8_set_X8_isPointer
set_option maxRecDepth 20000 in
theorem ggX8_set_X8_refuse : GoodIn wsX8_set wsX8_refuse := goodIn_r _ [21, 1, 22, 32, 33, 34, 35, 36, 37, 38, 39, 40, 41, 42, 43, 44, 45, 46, 47, 48, 49, 50, 51, 52, 53, 54, 55, 56, 57] (by decide +kernel) (by decide +kernel)
set_option maxRecDepth 20000 in
theorem gX8_set_X8_refuse : GoodIn wsX8_set (wsV RX8 124 RX8 yX8_refuse wsX8_refuse) := goodIn_app (goodIn_of _ (by decide +kernel)) ggX8_set_X8_refuse
set_option maxRecDepth 20000 in
theorem ggX8_set_X8_lay : GoodIn wsX8_set wsX8_lay := goodIn_r _ [26, 27, 2, 3, 28, 10, 11, 7, 12, 18, 19, 20, 21, 1, 22, 29, 30, 31, 32, 33, 34, 35, 36, 37, 38, 39, 40, 41, 42, 43, 44, 45, 46, 47, 48, 49, 50, 51, 52, 53, 54, 55, 56, 57] (by decide +kernel) (by decide +kernel)
set_option maxRecDepth 20000 in
theorem gX8_set_X8_lay : GoodIn wsX8_set (wsV RX8 208 RX8 yX8_lay wsX8_lay) := goodIn_app (goodIn_of _ (by decide +kernel)) ggX8_set_X8_lay
theorem dX8_set_0 : decode cX8_set 0 = .ok (.aload_n 0, 1) := by decide +kernel
theorem dX8_set_1 : decode cX8_set 1 = .ok (.iconst 0, 1) := by decide +kernel
theorem dX8_set_2 : decode cX8_set 2 = .ok (.putfield 64, 3) := by decide +kernel
theorem dX8_set_5 : decode cX8_set 5 = .ok (.aload_n 0, 1) := by decide +kernel
theorem dX8_set_6 : decode cX8_set 6 = .ok (.iload_n 1, 1) := by decide +kernel
theorem dX8_set_7 : decode cX8_set 7 = .ok (.invokevirtual 202, 3) := by decide +kernel
theorem dX8_set_10 : decode cX8_set 10 = .ok (.ifCond .eq 16, 3) := by decide +kernel
theorem dX8_set_13 : decode cX8_set 13 = .ok (.iload_n 3, 1) := by decide +kernel
theorem dX8_set_14 : decode cX8_set 14 = .ok (.iconst (-1), 1) := by decide +kernel
theorem dX8_set_15 : decode cX8_set 15 = .ok (.if_icmp .eq 18, 3) := by decide +kernel
theorem dX8_set_18 : decode cX8_set 18 = .ok (.aload_n 0, 1) := by decide +kernel
theorem dX8_set_19 : decode cX8_set 19 = .ok (.iload_n 3, 1) := by decide +kernel
theorem dX8_set_20 : decode cX8_set 20 = .ok (.invokevirtual 205, 3) := by decide +kernel
theorem dX8_set_23 : decode cX8_set 23 = .ok (.ifCond .ne 10, 3) := by decide +kernel
theorem dX8_set_26 : decode cX8_set 26 = .ok (.aload_n 0, 1) := by decide +kernel
theorem dX8_set_27 : decode cX8_set 27 = .ok (.bipush (-2), 2) := by decide +kernel
theorem dX8_set_29 : decode cX8_set 29 = .ok (.invokevirtual 124, 3) := by decide +kernel
theorem dX8_set_32 : decode cX8_set 32 = .ok (.ireturn, 1) := by decide +kernel
theorem dX8_set_33 : decode cX8_set 33 = .ok (.aload_n 0, 1) := by decide +kernel
theorem dX8_set_34 : decode cX8_set 34 = .ok (.getfield 55, 3) := by decide +kernel
theorem dX8_set_37 : decode cX8_set 37 = .ok (.iload_n 1, 1) := by decide +kernel
theorem dX8_set_38 : decode cX8_set 38 = .ok (.iaload, 1) := by decide +kernel
theorem dX8_set_39 : decode cX8_set 39 = .ok (.iconst 3, 1) := by decide +kernel
theorem dX8_set_40 : decode cX8_set 40 = .ok (.if_icmp .eq 18, 3) := by decide +kernel
theorem dX8_set_43 : decode cX8_set 43 = .ok (.iload_n 3, 1) := by decide +kernel
theorem dX8_set_44 : decode cX8_set 44 = .ok (.iconst (-1), 1) := by decide +kernel
theorem dX8_set_45 : decode cX8_set 45 = .ok (.if_icmp .eq 20, 3) := by decide +kernel
theorem dX8_set_48 : decode cX8_set 48 = .ok (.aload_n 0, 1) := by decide +kernel
theorem dX8_set_49 : decode cX8_set 49 = .ok (.getfield 49, 3) := by decide +kernel
theorem dX8_set_52 : decode cX8_set 52 = .ok (.iload_n 3, 1) := by decide +kernel
theorem dX8_set_53 : decode cX8_set 53 = .ok (.iaload, 1) := by decide +kernel
theorem dX8_set_54 : decode cX8_set 54 = .ok (.iconst 3, 1) := by decide +kernel
theorem dX8_set_55 : decode cX8_set 55 = .ok (.if_icmp .ne 10, 3) := by decide +kernel
theorem dX8_set_58 : decode cX8_set 58 = .ok (.aload_n 0, 1) := by decide +kernel
theorem dX8_set_59 : decode cX8_set 59 = .ok (.bipush (-7), 2) := by decide +kernel
theorem dX8_set_61 : decode cX8_set 61 = .ok (.invokevirtual 124, 3) := by decide +kernel
theorem dX8_set_64 : decode cX8_set 64 = .ok (.ireturn, 1) := by decide +kernel
theorem dX8_set_65 : decode cX8_set 65 = .ok (.aload_n 0, 1) := by decide +kernel
theorem dX8_set_66 : decode cX8_set 66 = .ok (.iload_n 1, 1) := by decide +kernel
theorem dX8_set_67 : decode cX8_set 67 = .ok (.iload_n 2, 1) := by decide +kernel
theorem dX8_set_68 : decode cX8_set 68 = .ok (.iload_n 3, 1) := by decide +kernel
theorem dX8_set_69 : decode cX8_set 69 = .ok (.invokevirtual 208, 3) := by decide +kernel
theorem dX8_set_72 : decode cX8_set 72 = .ok (.ireturn, 1) := by decide +kernel
set_option maxRecDepth 20000 in
theorem ggX8_hang_X8_isStand : GoodIn wsX8_hang wsX8_isStand := goodIn_r _ [6, 7, 8, 9, 5, 10, 32, 33, 34, 35, 36, 37, 38, 39, 40, 41, 42, 43, 44, 45, 46, 47, 48, 49, 50, 51, 52, 53, 54, 55, 56, 57] (by decide +kernel) (by decide +kernel)
set_option maxRecDepth 20000 in
theorem gX8_hang_X8_isStand : GoodIn wsX8_hang (wsV RX8 202 RX8 yX8_isStand wsX8_isStand) := goodIn_app (goodIn_of _ (by decide +kernel)) ggX8_hang_X8_isStand
set_option maxRecDepth 20000 in
theorem ggX8_hang_X8_isPointer : GoodIn wsX8_hang wsX8_isPointer := goodIn_r _ [14, 15, 8, 9, 5, 10, 32, 33, 34, 35, 36, 37, 38, 39, 40, 41, 42, 43, 44, 45, 46, 47, 48, 49, 50, 51, 52, 53, 54, 55, 56, 57] (by decide +kernel) (by decide +kernel)
set_option maxRecDepth 20000 in
theorem gX8_hang_X8_isPointer : GoodIn wsX8_hang (wsV RX8 205 RX8 yX8_isPointer wsX8_isPointer) := goodIn_app (goodIn_of _ (by decide +kernel)) ggX8_hang_X8_isPointer
set_option maxRecDepth 20000 in
theorem ggX8_hang_X8_refuse : GoodIn wsX8_hang wsX8_refuse := goodIn_r _ [19, 1, 20, 32, 33, 34, 35, 36, 37, 38, 39, 40, 41, 42, 43, 44, 45, 46, 47, 48, 49, 50, 51, 52, 53, 54, 55, 56, 57] (by decide +kernel) (by decide +kernel)
set_option maxRecDepth 20000 in
theorem gX8_hang_X8_refuse : GoodIn wsX8_hang (wsV RX8 124 RX8 yX8_refuse wsX8_refuse) := goodIn_app (goodIn_of _ (by decide +kernel)) ggX8_hang_X8_refuse
set_option maxRecDepth 20000 in
theorem ggX8_hang_X8_lay : GoodIn wsX8_hang wsX8_lay := goodIn_r _ [24, 25, 26, 27, 28, 8, 9, 5, 10, 16, 17, 18, 19, 1, 20, 29, 30, 31, 32, 33, 34, 35, 36, 37, 38, 39, 40, 41, 42, 43, 44, 45, 46, 47, 48, 49, 50, 51, 52, 53, 54, 55, 56, 57] (by decide +kernel) (by decide +kernel)
set_option maxRecDepth 20000 in
theorem gX8_hang_X8_lay : GoodIn wsX8_hang (wsV RX8 208 RX8 yX8_lay wsX8_lay) := goodIn_app (goodIn_of _ (by decide +kernel)) ggX8_hang_X8_lay
theorem dX8_hang_0 : decode cX8_hang 0 = .ok (.aload_n 0, 1) := by decide +kernel
theorem dX8_hang_1 : decode cX8_hang 1 = .ok (.iconst 0, 1) := by decide +kernel
theorem dX8_hang_2 : decode cX8_hang 2 = .ok (.putfield 64, 3) := by decide +kernel
theorem dX8_hang_5 : decode cX8_hang 5 = .ok (.aload_n 0, 1) := by decide +kernel
theorem dX8_hang_6 : decode cX8_hang 6 = .ok (.iload_n 1, 1) := by decide +kernel
theorem dX8_hang_7 : decode cX8_hang 7 = .ok (.invokevirtual 202, 3) := by decide +kernel
theorem dX8_hang_10 : decode cX8_hang 10 = .ok (.ifCond .eq 16, 3) := by decide +kernel
theorem dX8_hang_13 : decode cX8_hang 13 = .ok (.iload_n 3, 1) := by decide +kernel
theorem dX8_hang_14 : decode cX8_hang 14 = .ok (.iconst (-1), 1) := by decide +kernel
theorem dX8_hang_15 : decode cX8_hang 15 = .ok (.if_icmp .eq 18, 3) := by decide +kernel
theorem dX8_hang_18 : decode cX8_hang 18 = .ok (.aload_n 0, 1) := by decide +kernel
theorem dX8_hang_19 : decode cX8_hang 19 = .ok (.iload_n 3, 1) := by decide +kernel
theorem dX8_hang_20 : decode cX8_hang 20 = .ok (.invokevirtual 205, 3) := by decide +kernel
theorem dX8_hang_23 : decode cX8_hang 23 = .ok (.ifCond .ne 10, 3) := by decide +kernel
theorem dX8_hang_26 : decode cX8_hang 26 = .ok (.aload_n 0, 1) := by decide +kernel
theorem dX8_hang_27 : decode cX8_hang 27 = .ok (.bipush (-2), 2) := by decide +kernel
theorem dX8_hang_29 : decode cX8_hang 29 = .ok (.invokevirtual 124, 3) := by decide +kernel
theorem dX8_hang_32 : decode cX8_hang 32 = .ok (.ireturn, 1) := by decide +kernel
theorem dX8_hang_33 : decode cX8_hang 33 = .ok (.aload_n 0, 1) := by decide +kernel
theorem dX8_hang_34 : decode cX8_hang 34 = .ok (.iload_n 1, 1) := by decide +kernel
theorem dX8_hang_35 : decode cX8_hang 35 = .ok (.iload_n 2, 1) := by decide +kernel
theorem dX8_hang_36 : decode cX8_hang 36 = .ok (.iload_n 3, 1) := by decide +kernel
theorem dX8_hang_37 : decode cX8_hang 37 = .ok (.invokevirtual 208, 3) := by decide +kernel
theorem dX8_hang_40 : decode cX8_hang 40 = .ok (.ireturn, 1) := by decide +kernel
set_option maxRecDepth 20000 in
theorem ggX8_shows_Jxf58ca_floatToIntBits_5c35a : GoodIn wsX8_shows wsJxf58ca_floatToIntBits_5c35a := goodIn_r _ [8, 9, 10, 11, 12, 13, 14, 15, 7, 16] (by decide +kernel) (by decide +kernel)
set_option maxRecDepth 20000 in
theorem gX8_shows_Jxf58ca_floatToIntBits_5c35a : GoodIn wsX8_shows (va_wsS RX8 91 yJxf58ca_floatToIntBits_5c35a wsJxf58ca_floatToIntBits_5c35a) := goodIn_app (goodIn_of _ (by decide +kernel)) ggX8_shows_Jxf58ca_floatToIntBits_5c35a
theorem dX8_shows_0 : decode cX8_shows 0 = .ok (.aload_n 0, 1) := by decide +kernel
theorem dX8_shows_1 : decode cX8_shows 1 = .ok (.getfield 20, 3) := by decide +kernel
theorem dX8_shows_4 : decode cX8_shows 4 = .ok (.aload_n 0, 1) := by decide +kernel
theorem dX8_shows_5 : decode cX8_shows 5 = .ok (.getfield 52, 3) := by decide +kernel
theorem dX8_shows_8 : decode cX8_shows 8 = .ok (.iload_n 1, 1) := by decide +kernel
theorem dX8_shows_9 : decode cX8_shows 9 = .ok (.iaload, 1) := by decide +kernel
theorem dX8_shows_10 : decode cX8_shows 10 = .ok (.daload, 1) := by decide +kernel
theorem dX8_shows_11 : decode cX8_shows 11 = .ok (.dstore_n 2, 1) := by decide +kernel
theorem dX8_shows_12 : decode cX8_shows 12 = .ok (.aload_n 0, 1) := by decide +kernel
theorem dX8_shows_13 : decode cX8_shows 13 = .ok (.getfield 49, 3) := by decide +kernel
theorem dX8_shows_16 : decode cX8_shows 16 = .ok (.iload_n 1, 1) := by decide +kernel
theorem dX8_shows_17 : decode cX8_shows 17 = .ok (.iaload, 1) := by decide +kernel
theorem dX8_shows_18 : decode cX8_shows 18 = .ok (.ifCond .ne 7, 3) := by decide +kernel
theorem dX8_shows_21 : decode cX8_shows 21 = .ok (.dload_n 2, 1) := by decide +kernel
theorem dX8_shows_22 : decode cX8_shows 22 = .ok (.d2i, 1) := by decide +kernel
theorem dX8_shows_23 : decode cX8_shows 23 = .ok (.i2l, 1) := by decide +kernel
theorem dX8_shows_24 : decode cX8_shows 24 = .ok (.lreturn, 1) := by decide +kernel
theorem dX8_shows_25 : decode cX8_shows 25 = .ok (.aload_n 0, 1) := by decide +kernel
theorem dX8_shows_26 : decode cX8_shows 26 = .ok (.getfield 49, 3) := by decide +kernel
theorem dX8_shows_29 : decode cX8_shows 29 = .ok (.iload_n 1, 1) := by decide +kernel
theorem dX8_shows_30 : decode cX8_shows 30 = .ok (.iaload, 1) := by decide +kernel
theorem dX8_shows_31 : decode cX8_shows 31 = .ok (.iconst 3, 1) := by decide +kernel
theorem dX8_shows_32 : decode cX8_shows 32 = .ok (.if_icmp .ne 29, 3) := by decide +kernel
theorem dX8_shows_35 : decode cX8_shows 35 = .ok (.dload_n 2, 1) := by decide +kernel
theorem dX8_shows_36 : decode cX8_shows 36 = .ok (.dconst 0, 1) := by decide +kernel
theorem dX8_shows_37 : decode cX8_shows 37 = .ok (.dcmp .g, 1) := by decide +kernel
theorem dX8_shows_38 : decode cX8_shows 38 = .ok (.ifCond .lt 17, 3) := by decide +kernel
theorem dX8_shows_41 : decode cX8_shows 41 = .ok (.dload_n 2, 1) := by decide +kernel
theorem dX8_shows_42 : decode cX8_shows 42 = .ok (.dconst 0, 1) := by decide +kernel
theorem dX8_shows_43 : decode cX8_shows 43 = .ok (.dcmp .l, 1) := by decide +kernel
theorem dX8_shows_44 : decode cX8_shows 44 = .ok (.ifCond .ne 15, 3) := by decide +kernel
theorem dX8_shows_47 : decode cX8_shows 47 = .ok (.dconst 1, 1) := by decide +kernel
theorem dX8_shows_48 : decode cX8_shows 48 = .ok (.dload_n 2, 1) := by decide +kernel
theorem dX8_shows_49 : decode cX8_shows 49 = .ok (.ddiv, 1) := by decide +kernel
theorem dX8_shows_50 : decode cX8_shows 50 = .ok (.dconst 0, 1) := by decide +kernel
theorem dX8_shows_51 : decode cX8_shows 51 = .ok (.dcmp .g, 1) := by decide +kernel
theorem dX8_shows_52 : decode cX8_shows 52 = .ok (.ifCond .ge 7, 3) := by decide +kernel
theorem dX8_shows_55 : decode cX8_shows 55 = .ok (.lconst 1, 1) := by decide +kernel
theorem dX8_shows_56 : decode cX8_shows 56 = .ok (.goto 4, 3) := by decide +kernel
theorem dX8_shows_59 : decode cX8_shows 59 = .ok (.lconst 0, 1) := by decide +kernel
theorem dX8_shows_60 : decode cX8_shows 60 = .ok (.lreturn, 1) := by decide +kernel
theorem dX8_shows_61 : decode cX8_shows 61 = .ok (.dload_n 2, 1) := by decide +kernel
theorem dX8_shows_62 : decode cX8_shows 62 = .ok (.ldc2_w 211, 3) := by decide +kernel
theorem dX8_shows_65 : decode cX8_shows 65 = .ok (.dmul, 1) := by decide +kernel
theorem dX8_shows_66 : decode cX8_shows 66 = .ok (.d2l, 1) := by decide +kernel
theorem dX8_shows_67 : decode cX8_shows 67 = .ok (.lstore 4, 2) := by decide +kernel
theorem dX8_shows_69 : decode cX8_shows 69 = .ok (.aload_n 0, 1) := by decide +kernel
theorem dX8_shows_70 : decode cX8_shows 70 = .ok (.getfield 49, 3) := by decide +kernel
theorem dX8_shows_73 : decode cX8_shows 73 = .ok (.iload_n 1, 1) := by decide +kernel
theorem dX8_shows_74 : decode cX8_shows 74 = .ok (.iaload, 1) := by decide +kernel
theorem dX8_shows_75 : decode cX8_shows 75 = .ok (.iconst 1, 1) := by decide +kernel
theorem dX8_shows_76 : decode cX8_shows 76 = .ok (.if_icmp .ne 8, 3) := by decide +kernel
theorem dX8_shows_79 : decode cX8_shows 79 = .ok (.lload 4, 2) := by decide +kernel
theorem dX8_shows_81 : decode cX8_shows 81 = .ok (.goto 10, 3) := by decide +kernel
theorem dX8_shows_84 : decode cX8_shows 84 = .ok (.lload 4, 2) := by decide +kernel
theorem dX8_shows_86 : decode cX8_shows 86 = .ok (.l2f, 1) := by decide +kernel
theorem dX8_shows_87 : decode cX8_shows 87 = .ok (.invokestatic 91, 3) := by decide +kernel
theorem dX8_shows_90 : decode cX8_shows 90 = .ok (.i2l, 1) := by decide +kernel
theorem dX8_shows_91 : decode cX8_shows 91 = .ok (.lreturn, 1) := by decide +kernel
set_option maxRecDepth 20000 in
theorem ggX8_show_X8_isStand : GoodIn wsX8_show wsX8_isStand := goodIn_r _ [8, 9, 10, 11, 7, 12, 38, 39, 40, 41, 42, 43, 44, 45, 46, 47, 48, 49, 50, 51, 52, 53, 54, 55, 56, 57, 58, 59, 60, 61, 62, 63] (by decide +kernel) (by decide +kernel)
set_option maxRecDepth 20000 in
theorem gX8_show_X8_isStand : GoodIn wsX8_show (wsV RX8 202 RX8 yX8_isStand wsX8_isStand) := goodIn_app (goodIn_of _ (by decide +kernel)) ggX8_show_X8_isStand
set_option maxRecDepth 20000 in
theorem ggX8_show_X8_isIn : GoodIn wsX8_show wsX8_isIn := goodIn_r _ [12] (by decide +kernel) (by decide +kernel)
set_option maxRecDepth 20000 in
theorem gX8_show_X8_isIn : GoodIn wsX8_show (va_wsS RX8 116 yX8_isIn wsX8_isIn) := goodIn_app (goodIn_of _ (by decide +kernel)) ggX8_show_X8_isIn
set_option maxRecDepth 20000 in
theorem ggX8_show_X8_refuse : GoodIn wsX8_show wsX8_refuse := goodIn_r _ [16, 1, 17, 38, 39, 40, 41, 42, 43, 44, 45, 46, 47, 48, 49, 50, 51, 52, 53, 54, 55, 56, 57, 58, 59, 60, 61, 62, 63] (by decide +kernel) (by decide +kernel)
set_option maxRecDepth 20000 in
theorem gX8_show_X8_refuse : GoodIn wsX8_show (wsV RX8 124 RX8 yX8_refuse wsX8_refuse) := goodIn_app (goodIn_of _ (by decide +kernel)) ggX8_show_X8_refuse
set_option maxRecDepth 20000 in
theorem ggX8_show_X8_shows : GoodIn wsX8_show wsX8_shows := goodIn_r _ [21, 22, 23, 24, 25, 26, 27, 28, 29, 30, 31, 32, 33, 34, 35, 36, 37, 38, 39, 40, 41, 42, 43, 44, 45, 46, 47, 48, 49, 50, 51, 52, 53, 54, 55, 56, 57, 58, 59, 60, 61, 62, 63] (by decide +kernel) (by decide +kernel)
set_option maxRecDepth 20000 in
theorem gX8_show_X8_shows : GoodIn wsX8_show (wsV RX8 213 RX8 yX8_shows wsX8_shows) := goodIn_app (goodIn_of _ (by decide +kernel)) ggX8_show_X8_shows
theorem dX8_show_0 : decode cX8_show 0 = .ok (.aload_n 0, 1) := by decide +kernel
theorem dX8_show_1 : decode cX8_show 1 = .ok (.iconst 0, 1) := by decide +kernel
theorem dX8_show_2 : decode cX8_show 2 = .ok (.putfield 64, 3) := by decide +kernel
theorem dX8_show_5 : decode cX8_show 5 = .ok (.aload_n 0, 1) := by decide +kernel
theorem dX8_show_6 : decode cX8_show 6 = .ok (.iload_n 1, 1) := by decide +kernel
theorem dX8_show_7 : decode cX8_show 7 = .ok (.invokevirtual 202, 3) := by decide +kernel
theorem dX8_show_10 : decode cX8_show 10 = .ok (.ifCond .ne 8, 3) := by decide +kernel
theorem dX8_show_13 : decode cX8_show 13 = .ok (.bipush (-2), 2) := by decide +kernel
theorem dX8_show_15 : decode cX8_show 15 = .ok (.goto 45, 3) := by decide +kernel
theorem dX8_show_18 : decode cX8_show 18 = .ok (.iload_n 2, 1) := by decide +kernel
theorem dX8_show_19 : decode cX8_show 19 = .ok (.iconst 0, 1) := by decide +kernel
theorem dX8_show_20 : decode cX8_show 20 = .ok (.aload_n 0, 1) := by decide +kernel
theorem dX8_show_21 : decode cX8_show 21 = .ok (.getfield 58, 3) := by decide +kernel
theorem dX8_show_24 : decode cX8_show 24 = .ok (.iload_n 1, 1) := by decide +kernel
theorem dX8_show_25 : decode cX8_show 25 = .ok (.iaload, 1) := by decide +kernel
theorem dX8_show_26 : decode cX8_show 26 = .ok (.iconst 1, 1) := by decide +kernel
theorem dX8_show_27 : decode cX8_show 27 = .ok (.isub, 1) := by decide +kernel
theorem dX8_show_28 : decode cX8_show 28 = .ok (.invokestatic 116, 3) := by decide +kernel
theorem dX8_show_31 : decode cX8_show 31 = .ok (.ifCond .ne 8, 3) := by decide +kernel
theorem dX8_show_34 : decode cX8_show 34 = .ok (.bipush (-8), 2) := by decide +kernel
theorem dX8_show_36 : decode cX8_show 36 = .ok (.goto 24, 3) := by decide +kernel
theorem dX8_show_39 : decode cX8_show 39 = .ok (.aload_n 0, 1) := by decide +kernel
theorem dX8_show_40 : decode cX8_show 40 = .ok (.getfield 61, 3) := by decide +kernel
theorem dX8_show_43 : decode cX8_show 43 = .ok (.bipush 6, 2) := by decide +kernel
theorem dX8_show_45 : decode cX8_show 45 = .ok (.iload_n 1, 1) := by decide +kernel
theorem dX8_show_46 : decode cX8_show 46 = .ok (.imul, 1) := by decide +kernel
theorem dX8_show_47 : decode cX8_show 47 = .ok (.iload_n 2, 1) := by decide +kernel
theorem dX8_show_48 : decode cX8_show 48 = .ok (.iadd, 1) := by decide +kernel
theorem dX8_show_49 : decode cX8_show 49 = .ok (.iaload, 1) := by decide +kernel
theorem dX8_show_50 : decode cX8_show 50 = .ok (.iconst (-1), 1) := by decide +kernel
theorem dX8_show_51 : decode cX8_show 51 = .ok (.if_icmp .ne 8, 3) := by decide +kernel
theorem dX8_show_54 : decode cX8_show 54 = .ok (.bipush (-10), 2) := by decide +kernel
theorem dX8_show_56 : decode cX8_show 56 = .ok (.goto 4, 3) := by decide +kernel
theorem dX8_show_59 : decode cX8_show 59 = .ok (.iconst 0, 1) := by decide +kernel
theorem dX8_show_60 : decode cX8_show 60 = .ok (.istore_n 3, 1) := by decide +kernel
theorem dX8_show_61 : decode cX8_show 61 = .ok (.iload_n 3, 1) := by decide +kernel
theorem dX8_show_62 : decode cX8_show 62 = .ok (.ifCond .eq 11, 3) := by decide +kernel
theorem dX8_show_65 : decode cX8_show 65 = .ok (.aload_n 0, 1) := by decide +kernel
theorem dX8_show_66 : decode cX8_show 66 = .ok (.iload_n 3, 1) := by decide +kernel
theorem dX8_show_67 : decode cX8_show 67 = .ok (.invokevirtual 124, 3) := by decide +kernel
theorem dX8_show_70 : decode cX8_show 70 = .ok (.istore_n 3, 1) := by decide +kernel
theorem dX8_show_71 : decode cX8_show 71 = .ok (.lconst 0, 1) := by decide +kernel
theorem dX8_show_72 : decode cX8_show 72 = .ok (.lreturn, 1) := by decide +kernel
theorem dX8_show_73 : decode cX8_show 73 = .ok (.aload_n 0, 1) := by decide +kernel
theorem dX8_show_74 : decode cX8_show 74 = .ok (.aload_n 0, 1) := by decide +kernel
theorem dX8_show_75 : decode cX8_show 75 = .ok (.getfield 61, 3) := by decide +kernel
theorem dX8_show_78 : decode cX8_show 78 = .ok (.bipush 6, 2) := by decide +kernel
theorem dX8_show_80 : decode cX8_show 80 = .ok (.iload_n 1, 1) := by decide +kernel
theorem dX8_show_81 : decode cX8_show 81 = .ok (.imul, 1) := by decide +kernel
theorem dX8_show_82 : decode cX8_show 82 = .ok (.iload_n 2, 1) := by decide +kernel
theorem dX8_show_83 : decode cX8_show 83 = .ok (.iadd, 1) := by decide +kernel
theorem dX8_show_84 : decode cX8_show 84 = .ok (.iaload, 1) := by decide +kernel
theorem dX8_show_85 : decode cX8_show 85 = .ok (.invokevirtual 213, 3) := by decide +kernel
theorem dX8_show_88 : decode cX8_show 88 = .ok (.lreturn, 1) := by decide +kernel
set_option maxRecDepth 20000 in
theorem ggX8_all_X8_isStand : GoodIn wsX8_all wsX8_isStand := goodIn_r _ [8, 9, 10, 11, 7, 12, 33, 34, 35, 36, 37, 38, 39, 40, 41, 42, 43, 44, 45, 46, 47, 48, 49, 50, 51, 52, 53, 54, 55, 56, 57, 58] (by decide +kernel) (by decide +kernel)
set_option maxRecDepth 20000 in
theorem gX8_all_X8_isStand : GoodIn wsX8_all (wsV RX8 202 RX8 yX8_isStand wsX8_isStand) := goodIn_app (goodIn_of _ (by decide +kernel)) ggX8_all_X8_isStand
set_option maxRecDepth 20000 in
theorem ggX8_all_X8_shows : GoodIn wsX8_all wsX8_shows := goodIn_r _ [16, 17, 18, 19, 20, 21, 22, 23, 24, 25, 26, 27, 28, 29, 30, 31, 32, 33, 34, 35, 36, 37, 38, 39, 40, 41, 42, 43, 44, 45, 46, 47, 48, 49, 50, 51, 52, 53, 54, 55, 56, 57, 58] (by decide +kernel) (by decide +kernel)
set_option maxRecDepth 20000 in
theorem gX8_all_X8_shows : GoodIn wsX8_all (wsV RX8 213 RX8 yX8_shows wsX8_shows) := goodIn_app (goodIn_of _ (by decide +kernel)) ggX8_all_X8_shows
theorem dX8_all_0 : decode cX8_all 0 = .ok (.aload_n 0, 1) := by decide +kernel
theorem dX8_all_1 : decode cX8_all 1 = .ok (.aload_n 0, 1) := by decide +kernel
theorem dX8_all_2 : decode cX8_all 2 = .ok (.iload_n 1, 1) := by decide +kernel
theorem dX8_all_3 : decode cX8_all 3 = .ok (.invokevirtual 202, 3) := by decide +kernel
theorem dX8_all_6 : decode cX8_all 6 = .ok (.ifCond .eq 7, 3) := by decide +kernel
theorem dX8_all_9 : decode cX8_all 9 = .ok (.iconst 0, 1) := by decide +kernel
theorem dX8_all_10 : decode cX8_all 10 = .ok (.goto 5, 3) := by decide +kernel
theorem dX8_all_13 : decode cX8_all 13 = .ok (.bipush (-2), 2) := by decide +kernel
theorem dX8_all_15 : decode cX8_all 15 = .ok (.putfield 64, 3) := by decide +kernel
theorem dX8_all_18 : decode cX8_all 18 = .ok (.lconst 0, 1) := by decide +kernel
theorem dX8_all_19 : decode cX8_all 19 = .ok (.lstore_n 2, 1) := by decide +kernel
theorem dX8_all_20 : decode cX8_all 20 = .ok (.iconst 0, 1) := by decide +kernel
theorem dX8_all_21 : decode cX8_all 21 = .ok (.istore 4, 2) := by decide +kernel
theorem dX8_all_23 : decode cX8_all 23 = .ok (.aload_n 0, 1) := by decide +kernel
theorem dX8_all_24 : decode cX8_all 24 = .ok (.getfield 64, 3) := by decide +kernel
theorem dX8_all_27 : decode cX8_all 27 = .ok (.ifCond .ne 53, 3) := by decide +kernel
theorem dX8_all_30 : decode cX8_all 30 = .ok (.iload 4, 2) := by decide +kernel
theorem dX8_all_32 : decode cX8_all 32 = .ok (.aload_n 0, 1) := by decide +kernel
theorem dX8_all_33 : decode cX8_all 33 = .ok (.getfield 58, 3) := by decide +kernel
theorem dX8_all_36 : decode cX8_all 36 = .ok (.iload_n 1, 1) := by decide +kernel
theorem dX8_all_37 : decode cX8_all 37 = .ok (.iaload, 1) := by decide +kernel
theorem dX8_all_38 : decode cX8_all 38 = .ok (.if_icmp .ge 42, 3) := by decide +kernel
theorem dX8_all_41 : decode cX8_all 41 = .ok (.aload_n 0, 1) := by decide +kernel
theorem dX8_all_42 : decode cX8_all 42 = .ok (.getfield 61, 3) := by decide +kernel
theorem dX8_all_45 : decode cX8_all 45 = .ok (.bipush 6, 2) := by decide +kernel
theorem dX8_all_47 : decode cX8_all 47 = .ok (.iload_n 1, 1) := by decide +kernel
theorem dX8_all_48 : decode cX8_all 48 = .ok (.imul, 1) := by decide +kernel
theorem dX8_all_49 : decode cX8_all 49 = .ok (.iload 4, 2) := by decide +kernel
theorem dX8_all_51 : decode cX8_all 51 = .ok (.iadd, 1) := by decide +kernel
theorem dX8_all_52 : decode cX8_all 52 = .ok (.iaload, 1) := by decide +kernel
theorem dX8_all_53 : decode cX8_all 53 = .ok (.istore 5, 2) := by decide +kernel
theorem dX8_all_55 : decode cX8_all 55 = .ok (.lload_n 2, 1) := by decide +kernel
theorem dX8_all_56 : decode cX8_all 56 = .ok (.iload 5, 2) := by decide +kernel
theorem dX8_all_58 : decode cX8_all 58 = .ok (.iconst (-1), 1) := by decide +kernel
theorem dX8_all_59 : decode cX8_all 59 = .ok (.if_icmp .ne 7, 3) := by decide +kernel
theorem dX8_all_62 : decode cX8_all 62 = .ok (.lconst 0, 1) := by decide +kernel
theorem dX8_all_63 : decode cX8_all 63 = .ok (.goto 9, 3) := by decide +kernel
theorem dX8_all_66 : decode cX8_all 66 = .ok (.aload_n 0, 1) := by decide +kernel
theorem dX8_all_67 : decode cX8_all 67 = .ok (.iload 5, 2) := by decide +kernel
theorem dX8_all_69 : decode cX8_all 69 = .ok (.invokevirtual 213, 3) := by decide +kernel
theorem dX8_all_72 : decode cX8_all 72 = .ok (.ladd, 1) := by decide +kernel
theorem dX8_all_73 : decode cX8_all 73 = .ok (.lstore_n 2, 1) := by decide +kernel
theorem dX8_all_74 : decode cX8_all 74 = .ok (.iinc 4 1, 3) := by decide +kernel
theorem dX8_all_77 : decode cX8_all 77 = .ok (.goto (-54), 3) := by decide +kernel
theorem dX8_all_80 : decode cX8_all 80 = .ok (.lload_n 2, 1) := by decide +kernel
theorem dX8_all_81 : decode cX8_all 81 = .ok (.lreturn, 1) := by decide +kernel
theorem dX8_count_0 : decode cX8_count 0 = .ok (.iload_n 1, 1) := by decide +kernel
theorem dX8_count_1 : decode cX8_count 1 = .ok (.tableswitch 60 0 4 #[35, 40, 45, 50, 55], 35) := by decide +kernel
theorem dX8_count_36 : decode cX8_count 36 = .ok (.aload_n 0, 1) := by decide +kernel
theorem dX8_count_37 : decode cX8_count 37 = .ok (.getfield 113, 3) := by decide +kernel
theorem dX8_count_40 : decode cX8_count 40 = .ok (.ireturn, 1) := by decide +kernel
theorem dX8_count_41 : decode cX8_count 41 = .ok (.aload_n 0, 1) := by decide +kernel
theorem dX8_count_42 : decode cX8_count 42 = .ok (.getfield 144, 3) := by decide +kernel
theorem dX8_count_45 : decode cX8_count 45 = .ok (.ireturn, 1) := by decide +kernel
theorem dX8_count_46 : decode cX8_count 46 = .ok (.aload_n 0, 1) := by decide +kernel
theorem dX8_count_47 : decode cX8_count 47 = .ok (.getfield 182, 3) := by decide +kernel
theorem dX8_count_50 : decode cX8_count 50 = .ok (.ireturn, 1) := by decide +kernel
theorem dX8_count_51 : decode cX8_count 51 = .ok (.aload_n 0, 1) := by decide +kernel
theorem dX8_count_52 : decode cX8_count 52 = .ok (.getfield 192, 3) := by decide +kernel
theorem dX8_count_55 : decode cX8_count 55 = .ok (.ireturn, 1) := by decide +kernel
theorem dX8_count_56 : decode cX8_count 56 = .ok (.aload_n 0, 1) := by decide +kernel
theorem dX8_count_57 : decode cX8_count 57 = .ok (.getfield 195, 3) := by decide +kernel
theorem dX8_count_60 : decode cX8_count 60 = .ok (.ireturn, 1) := by decide +kernel
theorem dX8_count_61 : decode cX8_count 61 = .ok (.bipush (-2), 2) := by decide +kernel
theorem dX8_count_63 : decode cX8_count 63 = .ok (.ireturn, 1) := by decide +kernel
set_option maxRecDepth 20000 in
theorem ggX8_often_X8_isIn : GoodIn wsX8_often wsX8_isIn := goodIn_r _ [5] (by decide +kernel) (by decide +kernel)
set_option maxRecDepth 20000 in
theorem gX8_often_X8_isIn : GoodIn wsX8_often (va_wsS RX8 116 yX8_isIn wsX8_isIn) := goodIn_app (goodIn_of _ (by decide +kernel)) ggX8_often_X8_isIn
theorem dX8_often_0 : decode cX8_often 0 = .ok (.iload_n 1, 1) := by decide +kernel
theorem dX8_often_1 : decode cX8_often 1 = .ok (.bipush (-10), 2) := by decide +kernel
theorem dX8_often_3 : decode cX8_often 3 = .ok (.bipush (-3), 2) := by decide +kernel
theorem dX8_often_5 : decode cX8_often 5 = .ok (.invokestatic 116, 3) := by decide +kernel
theorem dX8_often_8 : decode cX8_often 8 = .ok (.ifCond .eq 15, 3) := by decide +kernel
theorem dX8_often_11 : decode cX8_often 11 = .ok (.aload_n 0, 1) := by decide +kernel
theorem dX8_often_12 : decode cX8_often 12 = .ok (.getfield 7, 3) := by decide +kernel
theorem dX8_often_15 : decode cX8_often 15 = .ok (.bipush (-3), 2) := by decide +kernel
theorem dX8_often_17 : decode cX8_often 17 = .ok (.iload_n 1, 1) := by decide +kernel
theorem dX8_often_18 : decode cX8_often 18 = .ok (.isub, 1) := by decide +kernel
theorem dX8_often_19 : decode cX8_often 19 = .ok (.iaload, 1) := by decide +kernel
theorem dX8_often_20 : decode cX8_often 20 = .ok (.goto 4, 3) := by decide +kernel
theorem dX8_often_23 : decode cX8_often 23 = .ok (.iconst 0, 1) := by decide +kernel
theorem dX8_often_24 : decode cX8_often 24 = .ok (.ireturn, 1) := by decide +kernel
theorem dX8_refused_0 : decode cX8_refused 0 = .ok (.aload_n 0, 1) := by decide +kernel
theorem dX8_refused_1 : decode cX8_refused 1 = .ok (.getfield 64, 3) := by decide +kernel
theorem dX8_refused_4 : decode cX8_refused 4 = .ok (.ireturn, 1) := by decide +kernel
