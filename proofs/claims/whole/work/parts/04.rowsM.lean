theorem dX5_init_0 : decode cX5_init 0 = .ok (.aload_n 0, 1) := by decide +kernel
theorem dX5_init_1 : decode cX5_init 1 = .ok (.invokespecial 1, 3) := by decide +kernel
theorem dX5_init_4 : decode cX5_init 4 = .ok (.aload_n 0, 1) := by decide +kernel
theorem dX5_init_5 : decode cX5_init 5 = .ok (.bipush 16, 2) := by decide +kernel
theorem dX5_init_7 : decode cX5_init 7 = .ok (.newarray .boolean, 2) := by decide +kernel
theorem dX5_init_9 : decode cX5_init 9 = .ok (.putfield 7, 3) := by decide +kernel
theorem dX5_init_12 : decode cX5_init 12 = .ok (.aload_n 0, 1) := by decide +kernel
theorem dX5_init_13 : decode cX5_init 13 = .ok (.bipush 16, 2) := by decide +kernel
theorem dX5_init_15 : decode cX5_init 15 = .ok (.newarray .boolean, 2) := by decide +kernel
theorem dX5_init_17 : decode cX5_init 17 = .ok (.putfield 13, 3) := by decide +kernel
theorem dX5_init_20 : decode cX5_init 20 = .ok (.aload_n 0, 1) := by decide +kernel
theorem dX5_init_21 : decode cX5_init 21 = .ok (.bipush 16, 2) := by decide +kernel
theorem dX5_init_23 : decode cX5_init 23 = .ok (.newarray .int, 2) := by decide +kernel
theorem dX5_init_25 : decode cX5_init 25 = .ok (.putfield 16, 3) := by decide +kernel
theorem dX5_init_28 : decode cX5_init 28 = .ok (.aload_n 0, 1) := by decide +kernel
theorem dX5_init_29 : decode cX5_init 29 = .ok (.bipush 16, 2) := by decide +kernel
theorem dX5_init_31 : decode cX5_init 31 = .ok (.newarray .int, 2) := by decide +kernel
theorem dX5_init_33 : decode cX5_init 33 = .ok (.putfield 20, 3) := by decide +kernel
theorem dX5_init_36 : decode cX5_init 36 = .ok (.aload_n 0, 1) := by decide +kernel
theorem dX5_init_37 : decode cX5_init 37 = .ok (.bipush 16, 2) := by decide +kernel
theorem dX5_init_39 : decode cX5_init 39 = .ok (.newarray .int, 2) := by decide +kernel
theorem dX5_init_41 : decode cX5_init 41 = .ok (.putfield 23, 3) := by decide +kernel
theorem dX5_init_44 : decode cX5_init 44 = .ok (.aload_n 0, 1) := by decide +kernel
theorem dX5_init_45 : decode cX5_init 45 = .ok (.bipush 16, 2) := by decide +kernel
theorem dX5_init_47 : decode cX5_init 47 = .ok (.newarray .int, 2) := by decide +kernel
theorem dX5_init_49 : decode cX5_init 49 = .ok (.putfield 26, 3) := by decide +kernel
theorem dX5_init_52 : decode cX5_init 52 = .ok (.aload_n 0, 1) := by decide +kernel
theorem dX5_init_53 : decode cX5_init 53 = .ok (.bipush 16, 2) := by decide +kernel
theorem dX5_init_55 : decode cX5_init 55 = .ok (.newarray .int, 2) := by decide +kernel
theorem dX5_init_57 : decode cX5_init 57 = .ok (.putfield 29, 3) := by decide +kernel
theorem dX5_init_60 : decode cX5_init 60 = .ok (.aload_n 0, 1) := by decide +kernel
theorem dX5_init_61 : decode cX5_init 61 = .ok (.bipush 16, 2) := by decide +kernel
theorem dX5_init_63 : decode cX5_init 63 = .ok (.newarray .int, 2) := by decide +kernel
theorem dX5_init_65 : decode cX5_init 65 = .ok (.putfield 32, 3) := by decide +kernel
theorem dX5_init_68 : decode cX5_init 68 = .ok (.aload_n 0, 1) := by decide +kernel
theorem dX5_init_69 : decode cX5_init 69 = .ok (.bipush 16, 2) := by decide +kernel
theorem dX5_init_71 : decode cX5_init 71 = .ok (.newarray .int, 2) := by decide +kernel
theorem dX5_init_73 : decode cX5_init 73 = .ok (.putfield 35, 3) := by decide +kernel
theorem dX5_init_76 : decode cX5_init 76 = .ok (.aload_n 0, 1) := by decide +kernel
theorem dX5_init_77 : decode cX5_init 77 = .ok (.sipush 192, 3) := by decide +kernel
theorem dX5_init_80 : decode cX5_init 80 = .ok (.newarray .int, 2) := by decide +kernel
theorem dX5_init_82 : decode cX5_init 82 = .ok (.putfield 38, 3) := by decide +kernel
theorem dX5_init_85 : decode cX5_init 85 = .ok (.aload_n 0, 1) := by decide +kernel
theorem dX5_init_86 : decode cX5_init 86 = .ok (.bipush 16, 2) := by decide +kernel
theorem dX5_init_88 : decode cX5_init 88 = .ok (.newarray .int, 2) := by decide +kernel
theorem dX5_init_90 : decode cX5_init 90 = .ok (.putfield 41, 3) := by decide +kernel
theorem dX5_init_93 : decode cX5_init 93 = .ok (.aload_n 0, 1) := by decide +kernel
theorem dX5_init_94 : decode cX5_init 94 = .ok (.bipush 24, 2) := by decide +kernel
theorem dX5_init_96 : decode cX5_init 96 = .ok (.newarray .boolean, 2) := by decide +kernel
theorem dX5_init_98 : decode cX5_init 98 = .ok (.putfield 44, 3) := by decide +kernel
theorem dX5_init_101 : decode cX5_init 101 = .ok (.aload_n 0, 1) := by decide +kernel
theorem dX5_init_102 : decode cX5_init 102 = .ok (.bipush 24, 2) := by decide +kernel
theorem dX5_init_104 : decode cX5_init 104 = .ok (.newarray .boolean, 2) := by decide +kernel
theorem dX5_init_106 : decode cX5_init 106 = .ok (.putfield 47, 3) := by decide +kernel
theorem dX5_init_109 : decode cX5_init 109 = .ok (.aload_n 0, 1) := by decide +kernel
theorem dX5_init_110 : decode cX5_init 110 = .ok (.bipush 24, 2) := by decide +kernel
theorem dX5_init_112 : decode cX5_init 112 = .ok (.newarray .int, 2) := by decide +kernel
theorem dX5_init_114 : decode cX5_init 114 = .ok (.putfield 50, 3) := by decide +kernel
theorem dX5_init_117 : decode cX5_init 117 = .ok (.aload_n 0, 1) := by decide +kernel
theorem dX5_init_118 : decode cX5_init 118 = .ok (.bipush 24, 2) := by decide +kernel
theorem dX5_init_120 : decode cX5_init 120 = .ok (.newarray .int, 2) := by decide +kernel
theorem dX5_init_122 : decode cX5_init 122 = .ok (.putfield 53, 3) := by decide +kernel
theorem dX5_init_125 : decode cX5_init 125 = .ok (.aload_n 0, 1) := by decide +kernel
theorem dX5_init_126 : decode cX5_init 126 = .ok (.bipush 24, 2) := by decide +kernel
theorem dX5_init_128 : decode cX5_init 128 = .ok (.newarray .int, 2) := by decide +kernel
theorem dX5_init_130 : decode cX5_init 130 = .ok (.putfield 56, 3) := by decide +kernel
theorem dX5_init_133 : decode cX5_init 133 = .ok (.aload_n 0, 1) := by decide +kernel
theorem dX5_init_134 : decode cX5_init 134 = .ok (.bipush 24, 2) := by decide +kernel
theorem dX5_init_136 : decode cX5_init 136 = .ok (.newarray .int, 2) := by decide +kernel
theorem dX5_init_138 : decode cX5_init 138 = .ok (.putfield 59, 3) := by decide +kernel
theorem dX5_init_141 : decode cX5_init 141 = .ok (.aload_n 0, 1) := by decide +kernel
theorem dX5_init_142 : decode cX5_init 142 = .ok (.bipush 8, 2) := by decide +kernel
theorem dX5_init_144 : decode cX5_init 144 = .ok (.newarray .int, 2) := by decide +kernel
theorem dX5_init_146 : decode cX5_init 146 = .ok (.putfield 62, 3) := by decide +kernel
theorem dX5_init_149 : decode cX5_init 149 = .ok (.aload_n 0, 1) := by decide +kernel
theorem dX5_init_150 : decode cX5_init 150 = .ok (.bipush 8, 2) := by decide +kernel
theorem dX5_init_152 : decode cX5_init 152 = .ok (.newarray .int, 2) := by decide +kernel
theorem dX5_init_154 : decode cX5_init 154 = .ok (.putfield 65, 3) := by decide +kernel
theorem dX5_init_157 : decode cX5_init 157 = .ok (.aload_n 0, 1) := by decide +kernel
theorem dX5_init_158 : decode cX5_init 158 = .ok (.bipush 48, 2) := by decide +kernel
theorem dX5_init_160 : decode cX5_init 160 = .ok (.newarray .int, 2) := by decide +kernel
theorem dX5_init_162 : decode cX5_init 162 = .ok (.putfield 68, 3) := by decide +kernel
theorem dX5_init_165 : decode cX5_init 165 = .ok (.aload_n 0, 1) := by decide +kernel
theorem dX5_init_166 : decode cX5_init 166 = .ok (.bipush 8, 2) := by decide +kernel
theorem dX5_init_168 : decode cX5_init 168 = .ok (.newarray .boolean, 2) := by decide +kernel
theorem dX5_init_170 : decode cX5_init 170 = .ok (.putfield 71, 3) := by decide +kernel
theorem dX5_init_173 : decode cX5_init 173 = .ok (.aload_n 0, 1) := by decide +kernel
theorem dX5_init_174 : decode cX5_init 174 = .ok (.bipush 8, 2) := by decide +kernel
theorem dX5_init_176 : decode cX5_init 176 = .ok (.newarray .boolean, 2) := by decide +kernel
theorem dX5_init_178 : decode cX5_init 178 = .ok (.putfield 74, 3) := by decide +kernel
theorem dX5_init_181 : decode cX5_init 181 = .ok (.aload_n 0, 1) := by decide +kernel
theorem dX5_init_182 : decode cX5_init 182 = .ok (.bipush 20, 2) := by decide +kernel
theorem dX5_init_184 : decode cX5_init 184 = .ok (.newarray .int, 2) := by decide +kernel
theorem dX5_init_186 : decode cX5_init 186 = .ok (.putfield 77, 3) := by decide +kernel
theorem dX5_init_189 : decode cX5_init 189 = .ok (.aload_n 0, 1) := by decide +kernel
theorem dX5_init_190 : decode cX5_init 190 = .ok (.bipush 20, 2) := by decide +kernel
theorem dX5_init_192 : decode cX5_init 192 = .ok (.newarray .int, 2) := by decide +kernel
theorem dX5_init_194 : decode cX5_init 194 = .ok (.putfield 80, 3) := by decide +kernel
theorem dX5_init_197 : decode cX5_init 197 = .ok (.aload_n 0, 1) := by decide +kernel
theorem dX5_init_198 : decode cX5_init 198 = .ok (.bipush 20, 2) := by decide +kernel
theorem dX5_init_200 : decode cX5_init 200 = .ok (.newarray .int, 2) := by decide +kernel
theorem dX5_init_202 : decode cX5_init 202 = .ok (.putfield 83, 3) := by decide +kernel
theorem dX5_init_205 : decode cX5_init 205 = .ok (.return_, 1) := by decide +kernel
theorem dX5_isIn_0 : decode cX5_isIn 0 = .ok (.iload_n 0, 1) := by decide +kernel
theorem dX5_isIn_1 : decode cX5_isIn 1 = .ok (.ifCond .lt 12, 3) := by decide +kernel
theorem dX5_isIn_4 : decode cX5_isIn 4 = .ok (.iload_n 0, 1) := by decide +kernel
theorem dX5_isIn_5 : decode cX5_isIn 5 = .ok (.iload_n 1, 1) := by decide +kernel
theorem dX5_isIn_6 : decode cX5_isIn 6 = .ok (.if_icmp .ge 7, 3) := by decide +kernel
theorem dX5_isIn_9 : decode cX5_isIn 9 = .ok (.iconst 1, 1) := by decide +kernel
theorem dX5_isIn_10 : decode cX5_isIn 10 = .ok (.goto 4, 3) := by decide +kernel
theorem dX5_isIn_13 : decode cX5_isIn 13 = .ok (.iconst 0, 1) := by decide +kernel
theorem dX5_isIn_14 : decode cX5_isIn 14 = .ok (.ireturn, 1) := by decide +kernel
theorem dX5_isNumber_0 : decode cX5_isNumber 0 = .ok (.iload_n 0, 1) := by decide +kernel
theorem dX5_isNumber_1 : decode cX5_isNumber 1 = .ok (.ldc 86, 2) := by decide +kernel
theorem dX5_isNumber_3 : decode cX5_isNumber 3 = .ok (.if_icmp .lt 13, 3) := by decide +kernel
theorem dX5_isNumber_6 : decode cX5_isNumber 6 = .ok (.iload_n 0, 1) := by decide +kernel
theorem dX5_isNumber_7 : decode cX5_isNumber 7 = .ok (.ldc 87, 2) := by decide +kernel
theorem dX5_isNumber_9 : decode cX5_isNumber 9 = .ok (.if_icmp .gt 7, 3) := by decide +kernel
theorem dX5_isNumber_12 : decode cX5_isNumber 12 = .ok (.iconst 1, 1) := by decide +kernel
theorem dX5_isNumber_13 : decode cX5_isNumber 13 = .ok (.goto 4, 3) := by decide +kernel
theorem dX5_isNumber_16 : decode cX5_isNumber 16 = .ok (.iconst 0, 1) := by decide +kernel
theorem dX5_isNumber_17 : decode cX5_isNumber 17 = .ok (.ireturn, 1) := by decide +kernel
set_option maxRecDepth 20000 in
theorem ggX5_isGauge_X5_isIn : GoodIn wsX5_isGauge wsX5_isIn := goodIn_r _ [5] (by decide +kernel) (by decide +kernel)
set_option maxRecDepth 20000 in
theorem gX5_isGauge_X5_isIn : GoodIn wsX5_isGauge (va_wsS RX5 88 yX5_isIn wsX5_isIn) := goodIn_app (goodIn_of _ (by decide +kernel)) ggX5_isGauge_X5_isIn
theorem dX5_isGauge_0 : decode cX5_isGauge 0 = .ok (.iload_n 1, 1) := by decide +kernel
theorem dX5_isGauge_1 : decode cX5_isGauge 1 = .ok (.bipush 16, 2) := by decide +kernel
theorem dX5_isGauge_3 : decode cX5_isGauge 3 = .ok (.invokestatic 88, 3) := by decide +kernel
theorem dX5_isGauge_6 : decode cX5_isGauge 6 = .ok (.ifCond .eq 16, 3) := by decide +kernel
theorem dX5_isGauge_9 : decode cX5_isGauge 9 = .ok (.aload_n 0, 1) := by decide +kernel
theorem dX5_isGauge_10 : decode cX5_isGauge 10 = .ok (.getfield 7, 3) := by decide +kernel
theorem dX5_isGauge_13 : decode cX5_isGauge 13 = .ok (.iload_n 1, 1) := by decide +kernel
theorem dX5_isGauge_14 : decode cX5_isGauge 14 = .ok (.baload, 1) := by decide +kernel
theorem dX5_isGauge_15 : decode cX5_isGauge 15 = .ok (.ifCond .eq 7, 3) := by decide +kernel
theorem dX5_isGauge_18 : decode cX5_isGauge 18 = .ok (.iconst 1, 1) := by decide +kernel
theorem dX5_isGauge_19 : decode cX5_isGauge 19 = .ok (.goto 4, 3) := by decide +kernel
theorem dX5_isGauge_22 : decode cX5_isGauge 22 = .ok (.iconst 0, 1) := by decide +kernel
theorem dX5_isGauge_23 : decode cX5_isGauge 23 = .ok (.ireturn, 1) := by decide +kernel
theorem dX5_wide_0 : decode cX5_wide 0 = .ok (.iload_n 0, 1) := by decide +kernel
theorem dX5_wide_1 : decode cX5_wide 1 = .ok (.i2d, 1) := by decide +kernel
theorem dX5_wide_2 : decode cX5_wide 2 = .ok (.ldc2_w 92, 3) := by decide +kernel
theorem dX5_wide_5 : decode cX5_wide 5 = .ok (.ddiv, 1) := by decide +kernel
theorem dX5_wide_6 : decode cX5_wide 6 = .ok (.dreturn, 1) := by decide +kernel
theorem dX5_slim_0 : decode cX5_slim 0 = .ok (.iload_n 0, 1) := by decide +kernel
theorem dX5_slim_1 : decode cX5_slim 1 = .ok (.i2f, 1) := by decide +kernel
theorem dX5_slim_2 : decode cX5_slim 2 = .ok (.ldc 94, 2) := by decide +kernel
theorem dX5_slim_4 : decode cX5_slim 4 = .ok (.fdiv, 1) := by decide +kernel
theorem dX5_slim_5 : decode cX5_slim 5 = .ok (.freturn, 1) := by decide +kernel
set_option maxRecDepth 20000 in
theorem ggX5_value_X5_slim : GoodIn wsX5_value wsX5_slim := goodIn_r _ [5, 6] (by decide +kernel) (by decide +kernel)
set_option maxRecDepth 20000 in
theorem gX5_value_X5_slim : GoodIn wsX5_value (va_wsS RX5 95 yX5_slim wsX5_slim) := goodIn_app (goodIn_of _ (by decide +kernel)) ggX5_value_X5_slim
set_option maxRecDepth 20000 in
theorem ggX5_value_X5_wide : GoodIn wsX5_value wsX5_wide := goodIn_r _ [9, 10] (by decide +kernel) (by decide +kernel)
set_option maxRecDepth 20000 in
theorem gX5_value_X5_wide : GoodIn wsX5_value (va_wsS RX5 99 yX5_wide wsX5_wide) := goodIn_app (goodIn_of _ (by decide +kernel)) ggX5_value_X5_wide
theorem dX5_value_0 : decode cX5_value 0 = .ok (.aload_n 0, 1) := by decide +kernel
theorem dX5_value_1 : decode cX5_value 1 = .ok (.getfield 13, 3) := by decide +kernel
theorem dX5_value_4 : decode cX5_value 4 = .ok (.iload_n 1, 1) := by decide +kernel
theorem dX5_value_5 : decode cX5_value 5 = .ok (.baload, 1) := by decide +kernel
theorem dX5_value_6 : decode cX5_value 6 = .ok (.ifCond .eq 11, 3) := by decide +kernel
theorem dX5_value_9 : decode cX5_value 9 = .ok (.iload_n 2, 1) := by decide +kernel
theorem dX5_value_10 : decode cX5_value 10 = .ok (.invokestatic 95, 3) := by decide +kernel
theorem dX5_value_13 : decode cX5_value 13 = .ok (.f2d, 1) := by decide +kernel
theorem dX5_value_14 : decode cX5_value 14 = .ok (.goto 7, 3) := by decide +kernel
theorem dX5_value_17 : decode cX5_value 17 = .ok (.iload_n 2, 1) := by decide +kernel
theorem dX5_value_18 : decode cX5_value 18 = .ok (.invokestatic 99, 3) := by decide +kernel
theorem dX5_value_21 : decode cX5_value 21 = .ok (.dreturn, 1) := by decide +kernel
theorem dX5_stood_0 : decode cX5_stood 0 = .ok (.iload_n 2, 1) := by decide +kernel
theorem dX5_stood_1 : decode cX5_stood 1 = .ok (.tableswitch 95 0 4 #[35, 47, 59, 71, 83], 35) := by decide +kernel
theorem dX5_stood_36 : decode cX5_stood 36 = .ok (.dload_n 0, 1) := by decide +kernel
theorem dX5_stood_37 : decode cX5_stood 37 = .ok (.dload_n 3, 1) := by decide +kernel
theorem dX5_stood_38 : decode cX5_stood 38 = .ok (.dcmp .g, 1) := by decide +kernel
theorem dX5_stood_39 : decode cX5_stood 39 = .ok (.ifCond .ge 7, 3) := by decide +kernel
theorem dX5_stood_42 : decode cX5_stood 42 = .ok (.iconst 1, 1) := by decide +kernel
theorem dX5_stood_43 : decode cX5_stood 43 = .ok (.goto 4, 3) := by decide +kernel
theorem dX5_stood_46 : decode cX5_stood 46 = .ok (.iconst 0, 1) := by decide +kernel
theorem dX5_stood_47 : decode cX5_stood 47 = .ok (.ireturn, 1) := by decide +kernel
theorem dX5_stood_48 : decode cX5_stood 48 = .ok (.dload_n 0, 1) := by decide +kernel
theorem dX5_stood_49 : decode cX5_stood 49 = .ok (.dload_n 3, 1) := by decide +kernel
theorem dX5_stood_50 : decode cX5_stood 50 = .ok (.dcmp .g, 1) := by decide +kernel
theorem dX5_stood_51 : decode cX5_stood 51 = .ok (.ifCond .gt 7, 3) := by decide +kernel
theorem dX5_stood_54 : decode cX5_stood 54 = .ok (.iconst 1, 1) := by decide +kernel
theorem dX5_stood_55 : decode cX5_stood 55 = .ok (.goto 4, 3) := by decide +kernel
theorem dX5_stood_58 : decode cX5_stood 58 = .ok (.iconst 0, 1) := by decide +kernel
theorem dX5_stood_59 : decode cX5_stood 59 = .ok (.ireturn, 1) := by decide +kernel
theorem dX5_stood_60 : decode cX5_stood 60 = .ok (.dload_n 0, 1) := by decide +kernel
theorem dX5_stood_61 : decode cX5_stood 61 = .ok (.dload_n 3, 1) := by decide +kernel
theorem dX5_stood_62 : decode cX5_stood 62 = .ok (.dcmp .l, 1) := by decide +kernel
theorem dX5_stood_63 : decode cX5_stood 63 = .ok (.ifCond .le 7, 3) := by decide +kernel
theorem dX5_stood_66 : decode cX5_stood 66 = .ok (.iconst 1, 1) := by decide +kernel
theorem dX5_stood_67 : decode cX5_stood 67 = .ok (.goto 4, 3) := by decide +kernel
theorem dX5_stood_70 : decode cX5_stood 70 = .ok (.iconst 0, 1) := by decide +kernel
theorem dX5_stood_71 : decode cX5_stood 71 = .ok (.ireturn, 1) := by decide +kernel
theorem dX5_stood_72 : decode cX5_stood 72 = .ok (.dload_n 0, 1) := by decide +kernel
theorem dX5_stood_73 : decode cX5_stood 73 = .ok (.dload_n 3, 1) := by decide +kernel
theorem dX5_stood_74 : decode cX5_stood 74 = .ok (.dcmp .l, 1) := by decide +kernel
theorem dX5_stood_75 : decode cX5_stood 75 = .ok (.ifCond .lt 7, 3) := by decide +kernel
theorem dX5_stood_78 : decode cX5_stood 78 = .ok (.iconst 1, 1) := by decide +kernel
theorem dX5_stood_79 : decode cX5_stood 79 = .ok (.goto 4, 3) := by decide +kernel
theorem dX5_stood_82 : decode cX5_stood 82 = .ok (.iconst 0, 1) := by decide +kernel
theorem dX5_stood_83 : decode cX5_stood 83 = .ok (.ireturn, 1) := by decide +kernel
theorem dX5_stood_84 : decode cX5_stood 84 = .ok (.dload_n 0, 1) := by decide +kernel
theorem dX5_stood_85 : decode cX5_stood 85 = .ok (.dload_n 3, 1) := by decide +kernel
theorem dX5_stood_86 : decode cX5_stood 86 = .ok (.dcmp .l, 1) := by decide +kernel
theorem dX5_stood_87 : decode cX5_stood 87 = .ok (.ifCond .ne 7, 3) := by decide +kernel
theorem dX5_stood_90 : decode cX5_stood 90 = .ok (.iconst 1, 1) := by decide +kernel
theorem dX5_stood_91 : decode cX5_stood 91 = .ok (.goto 4, 3) := by decide +kernel
theorem dX5_stood_94 : decode cX5_stood 94 = .ok (.iconst 0, 1) := by decide +kernel
theorem dX5_stood_95 : decode cX5_stood 95 = .ok (.ireturn, 1) := by decide +kernel
theorem dX5_stood_96 : decode cX5_stood 96 = .ok (.dload_n 0, 1) := by decide +kernel
theorem dX5_stood_97 : decode cX5_stood 97 = .ok (.dload_n 3, 1) := by decide +kernel
theorem dX5_stood_98 : decode cX5_stood 98 = .ok (.dcmp .l, 1) := by decide +kernel
theorem dX5_stood_99 : decode cX5_stood 99 = .ok (.ifCond .eq 7, 3) := by decide +kernel
theorem dX5_stood_102 : decode cX5_stood 102 = .ok (.iconst 1, 1) := by decide +kernel
theorem dX5_stood_103 : decode cX5_stood 103 = .ok (.goto 4, 3) := by decide +kernel
theorem dX5_stood_106 : decode cX5_stood 106 = .ok (.iconst 0, 1) := by decide +kernel
theorem dX5_stood_107 : decode cX5_stood 107 = .ok (.ireturn, 1) := by decide +kernel
set_option maxRecDepth 20000 in
theorem ggX5_related_X5_value : GoodIn wsX5_related wsX5_value := goodIn_r _ [6, 7, 8, 9, 5, 10, 11, 12, 13, 14, 15, 19, 20, 21, 22, 23, 24, 25, 26, 27, 28, 29, 30, 31, 32, 33, 34, 35, 36, 37, 38, 39, 40, 41, 42, 43, 44, 45, 46, 47, 48] (by decide +kernel) (by decide +kernel)
set_option maxRecDepth 20000 in
theorem gX5_related_X5_value : GoodIn wsX5_related (wsV RX5 104 RX5 yX5_value wsX5_value) := goodIn_app (goodIn_of _ (by decide +kernel)) ggX5_related_X5_value
set_option maxRecDepth 20000 in
theorem ggX5_related_X5_stood : GoodIn wsX5_related wsX5_stood := goodIn_r _ [18] (by decide +kernel) (by decide +kernel)
set_option maxRecDepth 20000 in
theorem gX5_related_X5_stood : GoodIn wsX5_related (va_wsS RX5 108 yX5_stood wsX5_stood) := goodIn_app (goodIn_of _ (by decide +kernel)) ggX5_related_X5_stood
theorem dX5_related_0 : decode cX5_related 0 = .ok (.iload_n 2, 1) := by decide +kernel
theorem dX5_related_1 : decode cX5_related 1 = .ok (.ldc 103, 2) := by decide +kernel
theorem dX5_related_3 : decode cX5_related 3 = .ok (.if_icmp .eq 10, 3) := by decide +kernel
theorem dX5_related_6 : decode cX5_related 6 = .ok (.iload 5, 2) := by decide +kernel
theorem dX5_related_8 : decode cX5_related 8 = .ok (.ldc 103, 2) := by decide +kernel
theorem dX5_related_10 : decode cX5_related 10 = .ok (.if_icmp .ne 14, 3) := by decide +kernel
theorem dX5_related_13 : decode cX5_related 13 = .ok (.iload_n 3, 1) := by decide +kernel
theorem dX5_related_14 : decode cX5_related 14 = .ok (.iconst 4, 1) := by decide +kernel
theorem dX5_related_15 : decode cX5_related 15 = .ok (.if_icmp .le 7, 3) := by decide +kernel
theorem dX5_related_18 : decode cX5_related 18 = .ok (.iconst 1, 1) := by decide +kernel
theorem dX5_related_19 : decode cX5_related 19 = .ok (.goto 4, 3) := by decide +kernel
theorem dX5_related_22 : decode cX5_related 22 = .ok (.iconst 0, 1) := by decide +kernel
theorem dX5_related_23 : decode cX5_related 23 = .ok (.ireturn, 1) := by decide +kernel
theorem dX5_related_24 : decode cX5_related 24 = .ok (.aload_n 0, 1) := by decide +kernel
theorem dX5_related_25 : decode cX5_related 25 = .ok (.iload_n 1, 1) := by decide +kernel
theorem dX5_related_26 : decode cX5_related 26 = .ok (.iload_n 2, 1) := by decide +kernel
theorem dX5_related_27 : decode cX5_related 27 = .ok (.invokevirtual 104, 3) := by decide +kernel
theorem dX5_related_30 : decode cX5_related 30 = .ok (.iload_n 3, 1) := by decide +kernel
theorem dX5_related_31 : decode cX5_related 31 = .ok (.aload_n 0, 1) := by decide +kernel
theorem dX5_related_32 : decode cX5_related 32 = .ok (.iload 4, 2) := by decide +kernel
theorem dX5_related_34 : decode cX5_related 34 = .ok (.iload 5, 2) := by decide +kernel
theorem dX5_related_36 : decode cX5_related 36 = .ok (.invokevirtual 104, 3) := by decide +kernel
theorem dX5_related_39 : decode cX5_related 39 = .ok (.invokestatic 108, 3) := by decide +kernel
theorem dX5_related_42 : decode cX5_related 42 = .ok (.ireturn, 1) := by decide +kernel
set_option maxRecDepth 20000 in
theorem ggX5_isFar_X5_value : GoodIn wsX5_isFar wsX5_value := goodIn_r _ [7, 1, 8, 9, 6, 10, 11, 12, 13, 14, 15, 16, 17, 18, 19, 20, 21, 22, 23, 24, 25, 26, 27, 28, 29, 30, 31, 32, 33, 34, 35, 36, 37, 38, 39, 40, 41, 42, 43, 44, 45] (by decide +kernel) (by decide +kernel)
set_option maxRecDepth 20000 in
theorem gX5_isFar_X5_value : GoodIn wsX5_isFar (wsV RX5 104 RX5 yX5_value wsX5_value) := goodIn_app (goodIn_of _ (by decide +kernel)) ggX5_isFar_X5_value
set_option maxRecDepth 20000 in
theorem ggX5_isFar_X5_slim : GoodIn wsX5_isFar wsX5_slim := goodIn_r _ [10, 11] (by decide +kernel) (by decide +kernel)
set_option maxRecDepth 20000 in
theorem gX5_isFar_X5_slim : GoodIn wsX5_isFar (va_wsS RX5 95 yX5_slim wsX5_slim) := goodIn_app (goodIn_of _ (by decide +kernel)) ggX5_isFar_X5_slim
set_option maxRecDepth 20000 in
theorem ggX5_isFar_X5_wide : GoodIn wsX5_isFar wsX5_wide := goodIn_r _ [14, 15] (by decide +kernel) (by decide +kernel)
set_option maxRecDepth 20000 in
theorem gX5_isFar_X5_wide : GoodIn wsX5_isFar (va_wsS RX5 99 yX5_wide wsX5_wide) := goodIn_app (goodIn_of _ (by decide +kernel)) ggX5_isFar_X5_wide
theorem dX5_isFar_0 : decode cX5_isFar 0 = .ok (.aload_n 0, 1) := by decide +kernel
theorem dX5_isFar_1 : decode cX5_isFar 1 = .ok (.iload_n 1, 1) := by decide +kernel
theorem dX5_isFar_2 : decode cX5_isFar 2 = .ok (.iload_n 2, 1) := by decide +kernel
theorem dX5_isFar_3 : decode cX5_isFar 3 = .ok (.invokevirtual 104, 3) := by decide +kernel
theorem dX5_isFar_6 : decode cX5_isFar 6 = .ok (.aload_n 0, 1) := by decide +kernel
theorem dX5_isFar_7 : decode cX5_isFar 7 = .ok (.iload_n 1, 1) := by decide +kernel
theorem dX5_isFar_8 : decode cX5_isFar 8 = .ok (.iload_n 3, 1) := by decide +kernel
theorem dX5_isFar_9 : decode cX5_isFar 9 = .ok (.invokevirtual 104, 3) := by decide +kernel
theorem dX5_isFar_12 : decode cX5_isFar 12 = .ok (.dcmp .l, 1) := by decide +kernel
theorem dX5_isFar_13 : decode cX5_isFar 13 = .ok (.ifCond .le 7, 3) := by decide +kernel
theorem dX5_isFar_16 : decode cX5_isFar 16 = .ok (.iconst 1, 1) := by decide +kernel
theorem dX5_isFar_17 : decode cX5_isFar 17 = .ok (.goto 4, 3) := by decide +kernel
theorem dX5_isFar_20 : decode cX5_isFar 20 = .ok (.iconst 0, 1) := by decide +kernel
theorem dX5_isFar_21 : decode cX5_isFar 21 = .ok (.istore 4, 2) := by decide +kernel
theorem dX5_isFar_23 : decode cX5_isFar 23 = .ok (.iload 4, 2) := by decide +kernel
theorem dX5_isFar_25 : decode cX5_isFar 25 = .ok (.ifCond .eq 7, 3) := by decide +kernel
theorem dX5_isFar_28 : decode cX5_isFar 28 = .ok (.iload_n 2, 1) := by decide +kernel
theorem dX5_isFar_29 : decode cX5_isFar 29 = .ok (.goto 4, 3) := by decide +kernel
theorem dX5_isFar_32 : decode cX5_isFar 32 = .ok (.iload_n 3, 1) := by decide +kernel
theorem dX5_isFar_33 : decode cX5_isFar 33 = .ok (.istore 5, 2) := by decide +kernel
theorem dX5_isFar_35 : decode cX5_isFar 35 = .ok (.iload 4, 2) := by decide +kernel
theorem dX5_isFar_37 : decode cX5_isFar 37 = .ok (.ifCond .eq 7, 3) := by decide +kernel
theorem dX5_isFar_40 : decode cX5_isFar 40 = .ok (.iload_n 3, 1) := by decide +kernel
theorem dX5_isFar_41 : decode cX5_isFar 41 = .ok (.goto 4, 3) := by decide +kernel
theorem dX5_isFar_44 : decode cX5_isFar 44 = .ok (.iload_n 2, 1) := by decide +kernel
theorem dX5_isFar_45 : decode cX5_isFar 45 = .ok (.istore 6, 2) := by decide +kernel
theorem dX5_isFar_47 : decode cX5_isFar 47 = .ok (.aload_n 0, 1) := by decide +kernel
theorem dX5_isFar_48 : decode cX5_isFar 48 = .ok (.getfield 13, 3) := by decide +kernel
theorem dX5_isFar_51 : decode cX5_isFar 51 = .ok (.iload_n 1, 1) := by decide +kernel
theorem dX5_isFar_52 : decode cX5_isFar 52 = .ok (.baload, 1) := by decide +kernel
theorem dX5_isFar_53 : decode cX5_isFar 53 = .ok (.ifCond .eq 35, 3) := by decide +kernel
theorem dX5_isFar_56 : decode cX5_isFar 56 = .ok (.iload 5, 2) := by decide +kernel
theorem dX5_isFar_58 : decode cX5_isFar 58 = .ok (.invokestatic 95, 3) := by decide +kernel
theorem dX5_isFar_61 : decode cX5_isFar 61 = .ok (.iload 6, 2) := by decide +kernel
theorem dX5_isFar_63 : decode cX5_isFar 63 = .ok (.invokestatic 95, 3) := by decide +kernel
theorem dX5_isFar_66 : decode cX5_isFar 66 = .ok (.fsub, 1) := by decide +kernel
theorem dX5_isFar_67 : decode cX5_isFar 67 = .ok (.aload_n 0, 1) := by decide +kernel
theorem dX5_isFar_68 : decode cX5_isFar 68 = .ok (.getfield 26, 3) := by decide +kernel
theorem dX5_isFar_71 : decode cX5_isFar 71 = .ok (.iload_n 1, 1) := by decide +kernel
theorem dX5_isFar_72 : decode cX5_isFar 72 = .ok (.iaload, 1) := by decide +kernel
theorem dX5_isFar_73 : decode cX5_isFar 73 = .ok (.invokestatic 95, 3) := by decide +kernel
theorem dX5_isFar_76 : decode cX5_isFar 76 = .ok (.fcmp .l, 1) := by decide +kernel
theorem dX5_isFar_77 : decode cX5_isFar 77 = .ok (.ifCond .le 7, 3) := by decide +kernel
theorem dX5_isFar_80 : decode cX5_isFar 80 = .ok (.iconst 1, 1) := by decide +kernel
theorem dX5_isFar_81 : decode cX5_isFar 81 = .ok (.goto 36, 3) := by decide +kernel
theorem dX5_isFar_84 : decode cX5_isFar 84 = .ok (.iconst 0, 1) := by decide +kernel
theorem dX5_isFar_85 : decode cX5_isFar 85 = .ok (.goto 32, 3) := by decide +kernel
theorem dX5_isFar_88 : decode cX5_isFar 88 = .ok (.iload 5, 2) := by decide +kernel
theorem dX5_isFar_90 : decode cX5_isFar 90 = .ok (.invokestatic 99, 3) := by decide +kernel
theorem dX5_isFar_93 : decode cX5_isFar 93 = .ok (.iload 6, 2) := by decide +kernel
theorem dX5_isFar_95 : decode cX5_isFar 95 = .ok (.invokestatic 99, 3) := by decide +kernel
theorem dX5_isFar_98 : decode cX5_isFar 98 = .ok (.dsub, 1) := by decide +kernel
theorem dX5_isFar_99 : decode cX5_isFar 99 = .ok (.aload_n 0, 1) := by decide +kernel
theorem dX5_isFar_100 : decode cX5_isFar 100 = .ok (.getfield 26, 3) := by decide +kernel
theorem dX5_isFar_103 : decode cX5_isFar 103 = .ok (.iload_n 1, 1) := by decide +kernel
theorem dX5_isFar_104 : decode cX5_isFar 104 = .ok (.iaload, 1) := by decide +kernel
theorem dX5_isFar_105 : decode cX5_isFar 105 = .ok (.invokestatic 99, 3) := by decide +kernel
theorem dX5_isFar_108 : decode cX5_isFar 108 = .ok (.dcmp .l, 1) := by decide +kernel
theorem dX5_isFar_109 : decode cX5_isFar 109 = .ok (.ifCond .le 7, 3) := by decide +kernel
theorem dX5_isFar_112 : decode cX5_isFar 112 = .ok (.iconst 1, 1) := by decide +kernel
theorem dX5_isFar_113 : decode cX5_isFar 113 = .ok (.goto 4, 3) := by decide +kernel
theorem dX5_isFar_116 : decode cX5_isFar 116 = .ok (.iconst 0, 1) := by decide +kernel
theorem dX5_isFar_117 : decode cX5_isFar 117 = .ok (.ireturn, 1) := by decide +kernel
set_option maxRecDepth 20000 in
theorem ggX5_make_X5_isIn : GoodIn wsX5_make wsX5_isIn := goodIn_r _ [12] (by decide +kernel) (by decide +kernel)
set_option maxRecDepth 20000 in
theorem gX5_make_X5_isIn : GoodIn wsX5_make (va_wsS RX5 88 yX5_isIn wsX5_isIn) := goodIn_app (goodIn_of _ (by decide +kernel)) ggX5_make_X5_isIn
theorem dX5_make_0 : decode cX5_make 0 = .ok (.iload_n 1, 1) := by decide +kernel
theorem dX5_make_1 : decode cX5_make 1 = .ok (.bipush 16, 2) := by decide +kernel
theorem dX5_make_3 : decode cX5_make 3 = .ok (.invokestatic 88, 3) := by decide +kernel
theorem dX5_make_6 : decode cX5_make 6 = .ok (.ifCond .ne 6, 3) := by decide +kernel
theorem dX5_make_9 : decode cX5_make 9 = .ok (.bipush (-4), 2) := by decide +kernel
theorem dX5_make_11 : decode cX5_make 11 = .ok (.ireturn, 1) := by decide +kernel
theorem dX5_make_12 : decode cX5_make 12 = .ok (.aload_n 0, 1) := by decide +kernel
theorem dX5_make_13 : decode cX5_make 13 = .ok (.getfield 7, 3) := by decide +kernel
theorem dX5_make_16 : decode cX5_make 16 = .ok (.iload_n 1, 1) := by decide +kernel
theorem dX5_make_17 : decode cX5_make 17 = .ok (.baload, 1) := by decide +kernel
theorem dX5_make_18 : decode cX5_make 18 = .ok (.ifCond .eq 5, 3) := by decide +kernel
theorem dX5_make_21 : decode cX5_make 21 = .ok (.iconst 0, 1) := by decide +kernel
theorem dX5_make_22 : decode cX5_make 22 = .ok (.ireturn, 1) := by decide +kernel
theorem dX5_make_23 : decode cX5_make 23 = .ok (.aload_n 0, 1) := by decide +kernel
theorem dX5_make_24 : decode cX5_make 24 = .ok (.getfield 7, 3) := by decide +kernel
theorem dX5_make_27 : decode cX5_make 27 = .ok (.iload_n 1, 1) := by decide +kernel
theorem dX5_make_28 : decode cX5_make 28 = .ok (.iconst 1, 1) := by decide +kernel
theorem dX5_make_29 : decode cX5_make 29 = .ok (.bastore, 1) := by decide +kernel
theorem dX5_make_30 : decode cX5_make 30 = .ok (.aload_n 0, 1) := by decide +kernel
theorem dX5_make_31 : decode cX5_make 31 = .ok (.getfield 13, 3) := by decide +kernel
theorem dX5_make_34 : decode cX5_make 34 = .ok (.iload_n 1, 1) := by decide +kernel
theorem dX5_make_35 : decode cX5_make 35 = .ok (.iload_n 2, 1) := by decide +kernel
theorem dX5_make_36 : decode cX5_make 36 = .ok (.bastore, 1) := by decide +kernel
theorem dX5_make_37 : decode cX5_make 37 = .ok (.aload_n 0, 1) := by decide +kernel
theorem dX5_make_38 : decode cX5_make 38 = .ok (.getfield 16, 3) := by decide +kernel
theorem dX5_make_41 : decode cX5_make 41 = .ok (.iload_n 1, 1) := by decide +kernel
theorem dX5_make_42 : decode cX5_make 42 = .ok (.ldc 103, 2) := by decide +kernel
theorem dX5_make_44 : decode cX5_make 44 = .ok (.iastore, 1) := by decide +kernel
theorem dX5_make_45 : decode cX5_make 45 = .ok (.aload_n 0, 1) := by decide +kernel
theorem dX5_make_46 : decode cX5_make 46 = .ok (.getfield 20, 3) := by decide +kernel
theorem dX5_make_49 : decode cX5_make 49 = .ok (.iload_n 1, 1) := by decide +kernel
theorem dX5_make_50 : decode cX5_make 50 = .ok (.ldc 103, 2) := by decide +kernel
theorem dX5_make_52 : decode cX5_make 52 = .ok (.iastore, 1) := by decide +kernel
theorem dX5_make_53 : decode cX5_make 53 = .ok (.aload_n 0, 1) := by decide +kernel
theorem dX5_make_54 : decode cX5_make 54 = .ok (.getfield 23, 3) := by decide +kernel
theorem dX5_make_57 : decode cX5_make 57 = .ok (.iload_n 1, 1) := by decide +kernel
theorem dX5_make_58 : decode cX5_make 58 = .ok (.ldc 103, 2) := by decide +kernel
theorem dX5_make_60 : decode cX5_make 60 = .ok (.iastore, 1) := by decide +kernel
theorem dX5_make_61 : decode cX5_make 61 = .ok (.aload_n 0, 1) := by decide +kernel
theorem dX5_make_62 : decode cX5_make 62 = .ok (.getfield 29, 3) := by decide +kernel
theorem dX5_make_65 : decode cX5_make 65 = .ok (.iload_n 1, 1) := by decide +kernel
theorem dX5_make_66 : decode cX5_make 66 = .ok (.ldc 103, 2) := by decide +kernel
theorem dX5_make_68 : decode cX5_make 68 = .ok (.iastore, 1) := by decide +kernel
theorem dX5_make_69 : decode cX5_make 69 = .ok (.aload_n 0, 1) := by decide +kernel
theorem dX5_make_70 : decode cX5_make 70 = .ok (.getfield 32, 3) := by decide +kernel
theorem dX5_make_73 : decode cX5_make 73 = .ok (.iload_n 1, 1) := by decide +kernel
theorem dX5_make_74 : decode cX5_make 74 = .ok (.ldc 103, 2) := by decide +kernel
theorem dX5_make_76 : decode cX5_make 76 = .ok (.iastore, 1) := by decide +kernel
theorem dX5_make_77 : decode cX5_make 77 = .ok (.iconst 1, 1) := by decide +kernel
theorem dX5_make_78 : decode cX5_make 78 = .ok (.ireturn, 1) := by decide +kernel
set_option maxRecDepth 20000 in
theorem ggX5_limit_X5_isNumber : GoodIn wsX5_limit wsX5_isNumber := goodIn_r _ [6, 7, 8] (by decide +kernel) (by decide +kernel)
set_option maxRecDepth 20000 in
theorem gX5_limit_X5_isNumber : GoodIn wsX5_limit (va_wsS RX5 112 yX5_isNumber wsX5_isNumber) := goodIn_app (goodIn_of _ (by decide +kernel)) ggX5_limit_X5_isNumber
set_option maxRecDepth 20000 in
theorem ggX5_limit_X5_isGauge : GoodIn wsX5_limit wsX5_isGauge := goodIn_r _ [12, 13, 14, 15, 5, 16, 17, 18, 19, 20, 21, 22, 23, 24, 25, 26, 27, 28, 29, 30, 31, 32, 33, 34, 35, 36, 37, 38, 39, 40, 41, 42, 43, 44, 45, 46] (by decide +kernel) (by decide +kernel)
set_option maxRecDepth 20000 in
theorem gX5_limit_X5_isGauge : GoodIn wsX5_limit (wsV RX5 116 RX5 yX5_isGauge wsX5_isGauge) := goodIn_app (goodIn_of _ (by decide +kernel)) ggX5_limit_X5_isGauge
theorem dX5_limit_0 : decode cX5_limit 0 = .ok (.iload_n 3, 1) := by decide +kernel
theorem dX5_limit_1 : decode cX5_limit 1 = .ok (.invokestatic 112, 3) := by decide +kernel
theorem dX5_limit_4 : decode cX5_limit 4 = .ok (.ifCond .ne 6, 3) := by decide +kernel
theorem dX5_limit_7 : decode cX5_limit 7 = .ok (.bipush (-4), 2) := by decide +kernel
theorem dX5_limit_9 : decode cX5_limit 9 = .ok (.ireturn, 1) := by decide +kernel
theorem dX5_limit_10 : decode cX5_limit 10 = .ok (.aload_n 0, 1) := by decide +kernel
theorem dX5_limit_11 : decode cX5_limit 11 = .ok (.iload_n 1, 1) := by decide +kernel
theorem dX5_limit_12 : decode cX5_limit 12 = .ok (.invokevirtual 116, 3) := by decide +kernel
theorem dX5_limit_15 : decode cX5_limit 15 = .ok (.ifCond .ne 6, 3) := by decide +kernel
theorem dX5_limit_18 : decode cX5_limit 18 = .ok (.bipush (-2), 2) := by decide +kernel
theorem dX5_limit_20 : decode cX5_limit 20 = .ok (.ireturn, 1) := by decide +kernel
theorem dX5_limit_21 : decode cX5_limit 21 = .ok (.iload_n 2, 1) := by decide +kernel
theorem dX5_limit_22 : decode cX5_limit 22 = .ok (.ifCond .eq 13, 3) := by decide +kernel
theorem dX5_limit_25 : decode cX5_limit 25 = .ok (.aload_n 0, 1) := by decide +kernel
theorem dX5_limit_26 : decode cX5_limit 26 = .ok (.getfield 23, 3) := by decide +kernel
theorem dX5_limit_29 : decode cX5_limit 29 = .ok (.iload_n 1, 1) := by decide +kernel
theorem dX5_limit_30 : decode cX5_limit 30 = .ok (.iload_n 3, 1) := by decide +kernel
theorem dX5_limit_31 : decode cX5_limit 31 = .ok (.iastore, 1) := by decide +kernel
theorem dX5_limit_32 : decode cX5_limit 32 = .ok (.goto 10, 3) := by decide +kernel
theorem dX5_limit_35 : decode cX5_limit 35 = .ok (.aload_n 0, 1) := by decide +kernel
theorem dX5_limit_36 : decode cX5_limit 36 = .ok (.getfield 20, 3) := by decide +kernel
theorem dX5_limit_39 : decode cX5_limit 39 = .ok (.iload_n 1, 1) := by decide +kernel
theorem dX5_limit_40 : decode cX5_limit 40 = .ok (.iload_n 3, 1) := by decide +kernel
theorem dX5_limit_41 : decode cX5_limit 41 = .ok (.iastore, 1) := by decide +kernel
theorem dX5_limit_42 : decode cX5_limit 42 = .ok (.iconst 1, 1) := by decide +kernel
theorem dX5_limit_43 : decode cX5_limit 43 = .ok (.ireturn, 1) := by decide +kernel
set_option maxRecDepth 20000 in
theorem ggX5_open_X5_isGauge : GoodIn wsX5_open wsX5_isGauge := goodIn_r _ [8, 9, 10, 11, 7, 12, 13, 14, 15, 16, 17, 18, 19, 20, 21, 22, 23, 24, 25, 26, 27, 28, 29, 30, 31, 32, 33, 34, 35, 36, 37, 38, 39, 40, 41, 42] (by decide +kernel) (by decide +kernel)
set_option maxRecDepth 20000 in
theorem gX5_open_X5_isGauge : GoodIn wsX5_open (wsV RX5 116 RX5 yX5_isGauge wsX5_isGauge) := goodIn_app (goodIn_of _ (by decide +kernel)) ggX5_open_X5_isGauge
theorem dX5_open_0 : decode cX5_open 0 = .ok (.aload_n 0, 1) := by decide +kernel
theorem dX5_open_1 : decode cX5_open 1 = .ok (.iload_n 1, 1) := by decide +kernel
theorem dX5_open_2 : decode cX5_open 2 = .ok (.invokevirtual 116, 3) := by decide +kernel
theorem dX5_open_5 : decode cX5_open 5 = .ok (.ifCond .ne 6, 3) := by decide +kernel
theorem dX5_open_8 : decode cX5_open 8 = .ok (.bipush (-2), 2) := by decide +kernel
theorem dX5_open_10 : decode cX5_open 10 = .ok (.ireturn, 1) := by decide +kernel
theorem dX5_open_11 : decode cX5_open 11 = .ok (.iload_n 2, 1) := by decide +kernel
theorem dX5_open_12 : decode cX5_open 12 = .ok (.ifCond .eq 12, 3) := by decide +kernel
theorem dX5_open_15 : decode cX5_open 15 = .ok (.aload_n 0, 1) := by decide +kernel
theorem dX5_open_16 : decode cX5_open 16 = .ok (.getfield 23, 3) := by decide +kernel
theorem dX5_open_19 : decode cX5_open 19 = .ok (.iload_n 1, 1) := by decide +kernel
theorem dX5_open_20 : decode cX5_open 20 = .ok (.iaload, 1) := by decide +kernel
theorem dX5_open_21 : decode cX5_open 21 = .ok (.goto 9, 3) := by decide +kernel
theorem dX5_open_24 : decode cX5_open 24 = .ok (.aload_n 0, 1) := by decide +kernel
theorem dX5_open_25 : decode cX5_open 25 = .ok (.getfield 20, 3) := by decide +kernel
theorem dX5_open_28 : decode cX5_open 28 = .ok (.iload_n 1, 1) := by decide +kernel
theorem dX5_open_29 : decode cX5_open 29 = .ok (.iaload, 1) := by decide +kernel
theorem dX5_open_30 : decode cX5_open 30 = .ok (.istore_n 3, 1) := by decide +kernel
theorem dX5_open_31 : decode cX5_open 31 = .ok (.iload_n 2, 1) := by decide +kernel
theorem dX5_open_32 : decode cX5_open 32 = .ok (.ifCond .eq 14, 3) := by decide +kernel
theorem dX5_open_35 : decode cX5_open 35 = .ok (.aload_n 0, 1) := by decide +kernel
theorem dX5_open_36 : decode cX5_open 36 = .ok (.getfield 23, 3) := by decide +kernel
theorem dX5_open_39 : decode cX5_open 39 = .ok (.iload_n 1, 1) := by decide +kernel
theorem dX5_open_40 : decode cX5_open 40 = .ok (.ldc 103, 2) := by decide +kernel
theorem dX5_open_42 : decode cX5_open 42 = .ok (.iastore, 1) := by decide +kernel
theorem dX5_open_43 : decode cX5_open 43 = .ok (.goto 11, 3) := by decide +kernel
theorem dX5_open_46 : decode cX5_open 46 = .ok (.aload_n 0, 1) := by decide +kernel
theorem dX5_open_47 : decode cX5_open 47 = .ok (.getfield 20, 3) := by decide +kernel
theorem dX5_open_50 : decode cX5_open 50 = .ok (.iload_n 1, 1) := by decide +kernel
theorem dX5_open_51 : decode cX5_open 51 = .ok (.ldc 103, 2) := by decide +kernel
theorem dX5_open_53 : decode cX5_open 53 = .ok (.iastore, 1) := by decide +kernel
theorem dX5_open_54 : decode cX5_open 54 = .ok (.iload_n 3, 1) := by decide +kernel
theorem dX5_open_55 : decode cX5_open 55 = .ok (.ldc 103, 2) := by decide +kernel
theorem dX5_open_57 : decode cX5_open 57 = .ok (.if_icmp .ne 7, 3) := by decide +kernel
theorem dX5_open_60 : decode cX5_open 60 = .ok (.iconst 0, 1) := by decide +kernel
theorem dX5_open_61 : decode cX5_open 61 = .ok (.goto 4, 3) := by decide +kernel
theorem dX5_open_64 : decode cX5_open 64 = .ok (.iconst 1, 1) := by decide +kernel
theorem dX5_open_65 : decode cX5_open 65 = .ok (.ireturn, 1) := by decide +kernel
set_option maxRecDepth 20000 in
theorem ggX5_band_X5_isGauge : GoodIn wsX5_band wsX5_isGauge := goodIn_r _ [7, 8, 9, 10, 6, 11, 12, 13, 14, 15, 16, 17, 18, 19, 20, 21, 22, 23, 24, 25, 26, 27, 28, 29, 30, 31, 32, 33, 34, 35, 36, 37, 38, 39, 40, 41] (by decide +kernel) (by decide +kernel)
set_option maxRecDepth 20000 in
theorem gX5_band_X5_isGauge : GoodIn wsX5_band (wsV RX5 116 RX5 yX5_isGauge wsX5_isGauge) := goodIn_app (goodIn_of _ (by decide +kernel)) ggX5_band_X5_isGauge
theorem dX5_band_0 : decode cX5_band 0 = .ok (.iload_n 2, 1) := by decide +kernel
theorem dX5_band_1 : decode cX5_band 1 = .ok (.ifCond .lt 9, 3) := by decide +kernel
theorem dX5_band_4 : decode cX5_band 4 = .ok (.iload_n 2, 1) := by decide +kernel
theorem dX5_band_5 : decode cX5_band 5 = .ok (.ldc 119, 2) := by decide +kernel
theorem dX5_band_7 : decode cX5_band 7 = .ok (.if_icmp .le 6, 3) := by decide +kernel
theorem dX5_band_10 : decode cX5_band 10 = .ok (.bipush (-4), 2) := by decide +kernel
theorem dX5_band_12 : decode cX5_band 12 = .ok (.ireturn, 1) := by decide +kernel
theorem dX5_band_13 : decode cX5_band 13 = .ok (.aload_n 0, 1) := by decide +kernel
theorem dX5_band_14 : decode cX5_band 14 = .ok (.iload_n 1, 1) := by decide +kernel
theorem dX5_band_15 : decode cX5_band 15 = .ok (.invokevirtual 116, 3) := by decide +kernel
theorem dX5_band_18 : decode cX5_band 18 = .ok (.ifCond .ne 6, 3) := by decide +kernel
theorem dX5_band_21 : decode cX5_band 21 = .ok (.bipush (-2), 2) := by decide +kernel
theorem dX5_band_23 : decode cX5_band 23 = .ok (.ireturn, 1) := by decide +kernel
theorem dX5_band_24 : decode cX5_band 24 = .ok (.aload_n 0, 1) := by decide +kernel
theorem dX5_band_25 : decode cX5_band 25 = .ok (.getfield 26, 3) := by decide +kernel
theorem dX5_band_28 : decode cX5_band 28 = .ok (.iload_n 1, 1) := by decide +kernel
theorem dX5_band_29 : decode cX5_band 29 = .ok (.iload_n 2, 1) := by decide +kernel
theorem dX5_band_30 : decode cX5_band 30 = .ok (.iastore, 1) := by decide +kernel
theorem dX5_band_31 : decode cX5_band 31 = .ok (.iconst 1, 1) := by decide +kernel
theorem dX5_band_32 : decode cX5_band 32 = .ok (.ireturn, 1) := by decide +kernel
theorem dX5_noted_0 : decode cX5_noted 0 = .ok (.bipush 11, 2) := by decide +kernel
theorem dX5_noted_2 : decode cX5_noted 2 = .ok (.istore_n 2, 1) := by decide +kernel
theorem dX5_noted_3 : decode cX5_noted 3 = .ok (.iload_n 2, 1) := by decide +kernel
theorem dX5_noted_4 : decode cX5_noted 4 = .ok (.ifCond .le 33, 3) := by decide +kernel
theorem dX5_noted_7 : decode cX5_noted 7 = .ok (.aload_n 0, 1) := by decide +kernel
theorem dX5_noted_8 : decode cX5_noted 8 = .ok (.getfield 38, 3) := by decide +kernel
theorem dX5_noted_11 : decode cX5_noted 11 = .ok (.bipush 12, 2) := by decide +kernel
theorem dX5_noted_13 : decode cX5_noted 13 = .ok (.iload_n 1, 1) := by decide +kernel
theorem dX5_noted_14 : decode cX5_noted 14 = .ok (.imul, 1) := by decide +kernel
theorem dX5_noted_15 : decode cX5_noted 15 = .ok (.iload_n 2, 1) := by decide +kernel
theorem dX5_noted_16 : decode cX5_noted 16 = .ok (.iadd, 1) := by decide +kernel
theorem dX5_noted_17 : decode cX5_noted 17 = .ok (.aload_n 0, 1) := by decide +kernel
theorem dX5_noted_18 : decode cX5_noted 18 = .ok (.getfield 38, 3) := by decide +kernel
theorem dX5_noted_21 : decode cX5_noted 21 = .ok (.bipush 12, 2) := by decide +kernel
theorem dX5_noted_23 : decode cX5_noted 23 = .ok (.iload_n 1, 1) := by decide +kernel
theorem dX5_noted_24 : decode cX5_noted 24 = .ok (.imul, 1) := by decide +kernel
theorem dX5_noted_25 : decode cX5_noted 25 = .ok (.iload_n 2, 1) := by decide +kernel
theorem dX5_noted_26 : decode cX5_noted 26 = .ok (.iadd, 1) := by decide +kernel
theorem dX5_noted_27 : decode cX5_noted 27 = .ok (.iconst 1, 1) := by decide +kernel
theorem dX5_noted_28 : decode cX5_noted 28 = .ok (.isub, 1) := by decide +kernel
theorem dX5_noted_29 : decode cX5_noted 29 = .ok (.iaload, 1) := by decide +kernel
theorem dX5_noted_30 : decode cX5_noted 30 = .ok (.iastore, 1) := by decide +kernel
theorem dX5_noted_31 : decode cX5_noted 31 = .ok (.iinc 2 (-1), 3) := by decide +kernel
theorem dX5_noted_34 : decode cX5_noted 34 = .ok (.goto (-31), 3) := by decide +kernel
theorem dX5_noted_37 : decode cX5_noted 37 = .ok (.aload_n 0, 1) := by decide +kernel
theorem dX5_noted_38 : decode cX5_noted 38 = .ok (.getfield 38, 3) := by decide +kernel
theorem dX5_noted_41 : decode cX5_noted 41 = .ok (.bipush 12, 2) := by decide +kernel
theorem dX5_noted_43 : decode cX5_noted 43 = .ok (.iload_n 1, 1) := by decide +kernel
theorem dX5_noted_44 : decode cX5_noted 44 = .ok (.imul, 1) := by decide +kernel
theorem dX5_noted_45 : decode cX5_noted 45 = .ok (.aload_n 0, 1) := by decide +kernel
theorem dX5_noted_46 : decode cX5_noted 46 = .ok (.getfield 16, 3) := by decide +kernel
theorem dX5_noted_49 : decode cX5_noted 49 = .ok (.iload_n 1, 1) := by decide +kernel
theorem dX5_noted_50 : decode cX5_noted 50 = .ok (.iaload, 1) := by decide +kernel
theorem dX5_noted_51 : decode cX5_noted 51 = .ok (.iastore, 1) := by decide +kernel
theorem dX5_noted_52 : decode cX5_noted 52 = .ok (.aload_n 0, 1) := by decide +kernel
theorem dX5_noted_53 : decode cX5_noted 53 = .ok (.getfield 41, 3) := by decide +kernel
theorem dX5_noted_56 : decode cX5_noted 56 = .ok (.iload_n 1, 1) := by decide +kernel
theorem dX5_noted_57 : decode cX5_noted 57 = .ok (.aload_n 0, 1) := by decide +kernel
theorem dX5_noted_58 : decode cX5_noted 58 = .ok (.getfield 41, 3) := by decide +kernel
theorem dX5_noted_61 : decode cX5_noted 61 = .ok (.iload_n 1, 1) := by decide +kernel
theorem dX5_noted_62 : decode cX5_noted 62 = .ok (.iaload, 1) := by decide +kernel
theorem dX5_noted_63 : decode cX5_noted 63 = .ok (.bipush 12, 2) := by decide +kernel
theorem dX5_noted_65 : decode cX5_noted 65 = .ok (.if_icmp .ge 14, 3) := by decide +kernel
theorem dX5_noted_68 : decode cX5_noted 68 = .ok (.aload_n 0, 1) := by decide +kernel
theorem dX5_noted_69 : decode cX5_noted 69 = .ok (.getfield 41, 3) := by decide +kernel
theorem dX5_noted_72 : decode cX5_noted 72 = .ok (.iload_n 1, 1) := by decide +kernel
theorem dX5_noted_73 : decode cX5_noted 73 = .ok (.iaload, 1) := by decide +kernel
theorem dX5_noted_74 : decode cX5_noted 74 = .ok (.iconst 1, 1) := by decide +kernel
theorem dX5_noted_75 : decode cX5_noted 75 = .ok (.iadd, 1) := by decide +kernel
theorem dX5_noted_76 : decode cX5_noted 76 = .ok (.goto 5, 3) := by decide +kernel
theorem dX5_noted_79 : decode cX5_noted 79 = .ok (.bipush 12, 2) := by decide +kernel
theorem dX5_noted_81 : decode cX5_noted 81 = .ok (.iastore, 1) := by decide +kernel
theorem dX5_noted_82 : decode cX5_noted 82 = .ok (.return_, 1) := by decide +kernel
set_option maxRecDepth 20000 in
theorem ggX5_take_X5_isNumber : GoodIn wsX5_take wsX5_isNumber := goodIn_r _ [13, 14, 15] (by decide +kernel) (by decide +kernel)
set_option maxRecDepth 20000 in
theorem gX5_take_X5_isNumber : GoodIn wsX5_take (va_wsS RX5 112 yX5_isNumber wsX5_isNumber) := goodIn_app (goodIn_of _ (by decide +kernel)) ggX5_take_X5_isNumber
set_option maxRecDepth 20000 in
theorem ggX5_take_X5_isGauge : GoodIn wsX5_take wsX5_isGauge := goodIn_r _ [19, 20, 21, 22, 12, 23, 48, 49, 50, 51, 52, 53, 54, 55, 56, 57, 58, 59, 60, 61, 62, 63, 64, 65, 66, 67, 68, 69, 70, 71, 72, 73, 74, 75, 76, 77] (by decide +kernel) (by decide +kernel)
set_option maxRecDepth 20000 in
theorem gX5_take_X5_isGauge : GoodIn wsX5_take (wsV RX5 116 RX5 yX5_isGauge wsX5_isGauge) := goodIn_app (goodIn_of _ (by decide +kernel)) ggX5_take_X5_isGauge
set_option maxRecDepth 20000 in
theorem ggX5_take_X5_value : GoodIn wsX5_take wsX5_value := goodIn_r _ [27, 28, 29, 30, 12, 31, 32, 33, 34, 35, 36, 48, 49, 50, 51, 52, 53, 54, 55, 56, 57, 58, 59, 60, 61, 62, 63, 64, 65, 66, 67, 68, 69, 70, 71, 72, 73, 74, 75, 76, 77] (by decide +kernel) (by decide +kernel)
set_option maxRecDepth 20000 in
theorem gX5_take_X5_value : GoodIn wsX5_take (wsV RX5 104 RX5 yX5_value wsX5_value) := goodIn_app (goodIn_of _ (by decide +kernel)) ggX5_take_X5_value
set_option maxRecDepth 20000 in
theorem ggX5_take_X5_isFar : GoodIn wsX5_take wsX5_isFar := goodIn_r _ [40, 28, 41, 24, 25, 26, 12, 27, 29, 30, 31, 32, 33, 34, 35, 36, 48, 49, 50, 51, 52, 53, 54, 55, 56, 57, 58, 59, 60, 61, 62, 63, 64, 65, 66, 67, 68, 69, 70, 71, 72, 73, 74, 75, 76, 77] (by decide +kernel) (by decide +kernel)
set_option maxRecDepth 20000 in
theorem gX5_take_X5_isFar : GoodIn wsX5_take (wsV RX5 120 RX5 yX5_isFar wsX5_isFar) := goodIn_app (goodIn_of _ (by decide +kernel)) ggX5_take_X5_isFar
set_option maxRecDepth 20000 in
theorem ggX5_take_X5_noted : GoodIn wsX5_take wsX5_noted := goodIn_r _ [45, 46, 4, 47, 48, 49, 50, 51, 52, 53, 54, 55, 56, 57, 58, 59, 60, 61, 62, 63, 64, 65, 66, 67, 68, 69, 70, 71, 72, 73, 74, 75, 76, 77] (by decide +kernel) (by decide +kernel)
set_option maxRecDepth 20000 in
theorem gX5_take_X5_noted : GoodIn wsX5_take (wsV RX5 134 RX5 yX5_noted wsX5_noted) := goodIn_app (goodIn_of _ (by decide +kernel)) ggX5_take_X5_noted
theorem dX5_take_0 : decode cX5_take 0 = .ok (.iload_n 2, 1) := by decide +kernel
theorem dX5_take_1 : decode cX5_take 1 = .ok (.invokestatic 112, 3) := by decide +kernel
theorem dX5_take_4 : decode cX5_take 4 = .ok (.ifCond .ne 6, 3) := by decide +kernel
theorem dX5_take_7 : decode cX5_take 7 = .ok (.bipush (-4), 2) := by decide +kernel
theorem dX5_take_9 : decode cX5_take 9 = .ok (.ireturn, 1) := by decide +kernel
theorem dX5_take_10 : decode cX5_take 10 = .ok (.aload_n 0, 1) := by decide +kernel
theorem dX5_take_11 : decode cX5_take 11 = .ok (.iload_n 1, 1) := by decide +kernel
theorem dX5_take_12 : decode cX5_take 12 = .ok (.invokevirtual 116, 3) := by decide +kernel
theorem dX5_take_15 : decode cX5_take 15 = .ok (.ifCond .ne 6, 3) := by decide +kernel
theorem dX5_take_18 : decode cX5_take 18 = .ok (.bipush (-2), 2) := by decide +kernel
theorem dX5_take_20 : decode cX5_take 20 = .ok (.ireturn, 1) := by decide +kernel
theorem dX5_take_21 : decode cX5_take 21 = .ok (.iconst 2, 1) := by decide +kernel
theorem dX5_take_22 : decode cX5_take 22 = .ok (.istore_n 3, 1) := by decide +kernel
theorem dX5_take_23 : decode cX5_take 23 = .ok (.aload_n 0, 1) := by decide +kernel
theorem dX5_take_24 : decode cX5_take 24 = .ok (.getfield 20, 3) := by decide +kernel
theorem dX5_take_27 : decode cX5_take 27 = .ok (.iload_n 1, 1) := by decide +kernel
theorem dX5_take_28 : decode cX5_take 28 = .ok (.iaload, 1) := by decide +kernel
theorem dX5_take_29 : decode cX5_take 29 = .ok (.ldc 103, 2) := by decide +kernel
theorem dX5_take_31 : decode cX5_take 31 = .ok (.if_icmp .eq 24, 3) := by decide +kernel
theorem dX5_take_34 : decode cX5_take 34 = .ok (.aload_n 0, 1) := by decide +kernel
theorem dX5_take_35 : decode cX5_take 35 = .ok (.iload_n 1, 1) := by decide +kernel
theorem dX5_take_36 : decode cX5_take 36 = .ok (.iload_n 2, 1) := by decide +kernel
theorem dX5_take_37 : decode cX5_take 37 = .ok (.invokevirtual 104, 3) := by decide +kernel
theorem dX5_take_40 : decode cX5_take 40 = .ok (.aload_n 0, 1) := by decide +kernel
theorem dX5_take_41 : decode cX5_take 41 = .ok (.iload_n 1, 1) := by decide +kernel
theorem dX5_take_42 : decode cX5_take 42 = .ok (.aload_n 0, 1) := by decide +kernel
theorem dX5_take_43 : decode cX5_take 43 = .ok (.getfield 20, 3) := by decide +kernel
theorem dX5_take_46 : decode cX5_take 46 = .ok (.iload_n 1, 1) := by decide +kernel
theorem dX5_take_47 : decode cX5_take 47 = .ok (.iaload, 1) := by decide +kernel
theorem dX5_take_48 : decode cX5_take 48 = .ok (.invokevirtual 104, 3) := by decide +kernel
theorem dX5_take_51 : decode cX5_take 51 = .ok (.dcmp .g, 1) := by decide +kernel
theorem dX5_take_52 : decode cX5_take 52 = .ok (.ifCond .lt 35, 3) := by decide +kernel
theorem dX5_take_55 : decode cX5_take 55 = .ok (.aload_n 0, 1) := by decide +kernel
theorem dX5_take_56 : decode cX5_take 56 = .ok (.getfield 23, 3) := by decide +kernel
theorem dX5_take_59 : decode cX5_take 59 = .ok (.iload_n 1, 1) := by decide +kernel
theorem dX5_take_60 : decode cX5_take 60 = .ok (.iaload, 1) := by decide +kernel
theorem dX5_take_61 : decode cX5_take 61 = .ok (.ldc 103, 2) := by decide +kernel
theorem dX5_take_63 : decode cX5_take 63 = .ok (.if_icmp .eq 29, 3) := by decide +kernel
theorem dX5_take_66 : decode cX5_take 66 = .ok (.aload_n 0, 1) := by decide +kernel
theorem dX5_take_67 : decode cX5_take 67 = .ok (.iload_n 1, 1) := by decide +kernel
theorem dX5_take_68 : decode cX5_take 68 = .ok (.iload_n 2, 1) := by decide +kernel
theorem dX5_take_69 : decode cX5_take 69 = .ok (.invokevirtual 104, 3) := by decide +kernel
theorem dX5_take_72 : decode cX5_take 72 = .ok (.aload_n 0, 1) := by decide +kernel
theorem dX5_take_73 : decode cX5_take 73 = .ok (.iload_n 1, 1) := by decide +kernel
theorem dX5_take_74 : decode cX5_take 74 = .ok (.aload_n 0, 1) := by decide +kernel
theorem dX5_take_75 : decode cX5_take 75 = .ok (.getfield 23, 3) := by decide +kernel
theorem dX5_take_78 : decode cX5_take 78 = .ok (.iload_n 1, 1) := by decide +kernel
theorem dX5_take_79 : decode cX5_take 79 = .ok (.iaload, 1) := by decide +kernel
theorem dX5_take_80 : decode cX5_take 80 = .ok (.invokevirtual 104, 3) := by decide +kernel
theorem dX5_take_83 : decode cX5_take 83 = .ok (.dcmp .l, 1) := by decide +kernel
theorem dX5_take_84 : decode cX5_take 84 = .ok (.ifCond .le 8, 3) := by decide +kernel
theorem dX5_take_87 : decode cX5_take 87 = .ok (.iconst 0, 1) := by decide +kernel
theorem dX5_take_88 : decode cX5_take 88 = .ok (.istore_n 3, 1) := by decide +kernel
theorem dX5_take_89 : decode cX5_take 89 = .ok (.goto 31, 3) := by decide +kernel
theorem dX5_take_92 : decode cX5_take 92 = .ok (.aload_n 0, 1) := by decide +kernel
theorem dX5_take_93 : decode cX5_take 93 = .ok (.getfield 16, 3) := by decide +kernel
theorem dX5_take_96 : decode cX5_take 96 = .ok (.iload_n 1, 1) := by decide +kernel
theorem dX5_take_97 : decode cX5_take 97 = .ok (.iaload, 1) := by decide +kernel
theorem dX5_take_98 : decode cX5_take 98 = .ok (.ldc 103, 2) := by decide +kernel
theorem dX5_take_100 : decode cX5_take 100 = .ok (.if_icmp .eq 20, 3) := by decide +kernel
theorem dX5_take_103 : decode cX5_take 103 = .ok (.aload_n 0, 1) := by decide +kernel
theorem dX5_take_104 : decode cX5_take 104 = .ok (.iload_n 1, 1) := by decide +kernel
theorem dX5_take_105 : decode cX5_take 105 = .ok (.iload_n 2, 1) := by decide +kernel
theorem dX5_take_106 : decode cX5_take 106 = .ok (.aload_n 0, 1) := by decide +kernel
theorem dX5_take_107 : decode cX5_take 107 = .ok (.getfield 16, 3) := by decide +kernel
theorem dX5_take_110 : decode cX5_take 110 = .ok (.iload_n 1, 1) := by decide +kernel
theorem dX5_take_111 : decode cX5_take 111 = .ok (.iaload, 1) := by decide +kernel
theorem dX5_take_112 : decode cX5_take 112 = .ok (.invokevirtual 120, 3) := by decide +kernel
theorem dX5_take_115 : decode cX5_take 115 = .ok (.ifCond .ne 5, 3) := by decide +kernel
theorem dX5_take_118 : decode cX5_take 118 = .ok (.iconst 1, 1) := by decide +kernel
theorem dX5_take_119 : decode cX5_take 119 = .ok (.istore_n 3, 1) := by decide +kernel
theorem dX5_take_120 : decode cX5_take 120 = .ok (.iload_n 3, 1) := by decide +kernel
theorem dX5_take_121 : decode cX5_take 121 = .ok (.ifCond .ne 24, 3) := by decide +kernel
theorem dX5_take_124 : decode cX5_take 124 = .ok (.aload_n 0, 1) := by decide +kernel
theorem dX5_take_125 : decode cX5_take 125 = .ok (.getfield 16, 3) := by decide +kernel
theorem dX5_take_128 : decode cX5_take 128 = .ok (.iload_n 1, 1) := by decide +kernel
theorem dX5_take_129 : decode cX5_take 129 = .ok (.ldc 103, 2) := by decide +kernel
theorem dX5_take_131 : decode cX5_take 131 = .ok (.iastore, 1) := by decide +kernel
theorem dX5_take_132 : decode cX5_take 132 = .ok (.aload_n 0, 1) := by decide +kernel
theorem dX5_take_133 : decode cX5_take 133 = .ok (.dup, 1) := by decide +kernel
theorem dX5_take_134 : decode cX5_take 134 = .ok (.getfield 124, 3) := by decide +kernel
theorem dX5_take_137 : decode cX5_take 137 = .ok (.iconst 1, 1) := by decide +kernel
theorem dX5_take_138 : decode cX5_take 138 = .ok (.iadd, 1) := by decide +kernel
theorem dX5_take_139 : decode cX5_take 139 = .ok (.putfield 124, 3) := by decide +kernel
theorem dX5_take_142 : decode cX5_take 142 = .ok (.goto 116, 3) := by decide +kernel
theorem dX5_take_145 : decode cX5_take 145 = .ok (.iload_n 3, 1) := by decide +kernel
theorem dX5_take_146 : decode cX5_take 146 = .ok (.iconst 1, 1) := by decide +kernel
theorem dX5_take_147 : decode cX5_take 147 = .ok (.if_icmp .ne 16, 3) := by decide +kernel
theorem dX5_take_150 : decode cX5_take 150 = .ok (.aload_n 0, 1) := by decide +kernel
theorem dX5_take_151 : decode cX5_take 151 = .ok (.dup, 1) := by decide +kernel
theorem dX5_take_152 : decode cX5_take 152 = .ok (.getfield 128, 3) := by decide +kernel
theorem dX5_take_155 : decode cX5_take 155 = .ok (.iconst 1, 1) := by decide +kernel
theorem dX5_take_156 : decode cX5_take 156 = .ok (.iadd, 1) := by decide +kernel
theorem dX5_take_157 : decode cX5_take 157 = .ok (.putfield 128, 3) := by decide +kernel
theorem dX5_take_160 : decode cX5_take 160 = .ok (.goto 98, 3) := by decide +kernel
theorem dX5_take_163 : decode cX5_take 163 = .ok (.aload_n 0, 1) := by decide +kernel
theorem dX5_take_164 : decode cX5_take 164 = .ok (.getfield 16, 3) := by decide +kernel
theorem dX5_take_167 : decode cX5_take 167 = .ok (.iload_n 1, 1) := by decide +kernel
theorem dX5_take_168 : decode cX5_take 168 = .ok (.iload_n 2, 1) := by decide +kernel
theorem dX5_take_169 : decode cX5_take 169 = .ok (.iastore, 1) := by decide +kernel
theorem dX5_take_170 : decode cX5_take 170 = .ok (.aload_n 0, 1) := by decide +kernel
theorem dX5_take_171 : decode cX5_take 171 = .ok (.getfield 29, 3) := by decide +kernel
theorem dX5_take_174 : decode cX5_take 174 = .ok (.iload_n 1, 1) := by decide +kernel
theorem dX5_take_175 : decode cX5_take 175 = .ok (.iaload, 1) := by decide +kernel
theorem dX5_take_176 : decode cX5_take 176 = .ok (.ldc 103, 2) := by decide +kernel
theorem dX5_take_178 : decode cX5_take 178 = .ok (.if_icmp .eq 24, 3) := by decide +kernel
theorem dX5_take_181 : decode cX5_take 181 = .ok (.aload_n 0, 1) := by decide +kernel
theorem dX5_take_182 : decode cX5_take 182 = .ok (.iload_n 1, 1) := by decide +kernel
theorem dX5_take_183 : decode cX5_take 183 = .ok (.iload_n 2, 1) := by decide +kernel
theorem dX5_take_184 : decode cX5_take 184 = .ok (.invokevirtual 104, 3) := by decide +kernel
theorem dX5_take_187 : decode cX5_take 187 = .ok (.aload_n 0, 1) := by decide +kernel
theorem dX5_take_188 : decode cX5_take 188 = .ok (.iload_n 1, 1) := by decide +kernel
theorem dX5_take_189 : decode cX5_take 189 = .ok (.aload_n 0, 1) := by decide +kernel
theorem dX5_take_190 : decode cX5_take 190 = .ok (.getfield 29, 3) := by decide +kernel
theorem dX5_take_193 : decode cX5_take 193 = .ok (.iload_n 1, 1) := by decide +kernel
theorem dX5_take_194 : decode cX5_take 194 = .ok (.iaload, 1) := by decide +kernel
theorem dX5_take_195 : decode cX5_take 195 = .ok (.invokevirtual 104, 3) := by decide +kernel
theorem dX5_take_198 : decode cX5_take 198 = .ok (.dcmp .l, 1) := by decide +kernel
theorem dX5_take_199 : decode cX5_take 199 = .ok (.ifCond .le 10, 3) := by decide +kernel
theorem dX5_take_202 : decode cX5_take 202 = .ok (.aload_n 0, 1) := by decide +kernel
theorem dX5_take_203 : decode cX5_take 203 = .ok (.getfield 29, 3) := by decide +kernel
theorem dX5_take_206 : decode cX5_take 206 = .ok (.iload_n 1, 1) := by decide +kernel
theorem dX5_take_207 : decode cX5_take 207 = .ok (.iload_n 2, 1) := by decide +kernel
theorem dX5_take_208 : decode cX5_take 208 = .ok (.iastore, 1) := by decide +kernel
theorem dX5_take_209 : decode cX5_take 209 = .ok (.aload_n 0, 1) := by decide +kernel
theorem dX5_take_210 : decode cX5_take 210 = .ok (.getfield 32, 3) := by decide +kernel
theorem dX5_take_213 : decode cX5_take 213 = .ok (.iload_n 1, 1) := by decide +kernel
theorem dX5_take_214 : decode cX5_take 214 = .ok (.iaload, 1) := by decide +kernel
theorem dX5_take_215 : decode cX5_take 215 = .ok (.ldc 103, 2) := by decide +kernel
theorem dX5_take_217 : decode cX5_take 217 = .ok (.if_icmp .eq 24, 3) := by decide +kernel
theorem dX5_take_220 : decode cX5_take 220 = .ok (.aload_n 0, 1) := by decide +kernel
theorem dX5_take_221 : decode cX5_take 221 = .ok (.iload_n 1, 1) := by decide +kernel
theorem dX5_take_222 : decode cX5_take 222 = .ok (.iload_n 2, 1) := by decide +kernel
theorem dX5_take_223 : decode cX5_take 223 = .ok (.invokevirtual 104, 3) := by decide +kernel
theorem dX5_take_226 : decode cX5_take 226 = .ok (.aload_n 0, 1) := by decide +kernel
theorem dX5_take_227 : decode cX5_take 227 = .ok (.iload_n 1, 1) := by decide +kernel
theorem dX5_take_228 : decode cX5_take 228 = .ok (.aload_n 0, 1) := by decide +kernel
theorem dX5_take_229 : decode cX5_take 229 = .ok (.getfield 32, 3) := by decide +kernel
theorem dX5_take_232 : decode cX5_take 232 = .ok (.iload_n 1, 1) := by decide +kernel
theorem dX5_take_233 : decode cX5_take 233 = .ok (.iaload, 1) := by decide +kernel
theorem dX5_take_234 : decode cX5_take 234 = .ok (.invokevirtual 104, 3) := by decide +kernel
theorem dX5_take_237 : decode cX5_take 237 = .ok (.dcmp .g, 1) := by decide +kernel
theorem dX5_take_238 : decode cX5_take 238 = .ok (.ifCond .ge 10, 3) := by decide +kernel
theorem dX5_take_241 : decode cX5_take 241 = .ok (.aload_n 0, 1) := by decide +kernel
theorem dX5_take_242 : decode cX5_take 242 = .ok (.getfield 32, 3) := by decide +kernel
theorem dX5_take_245 : decode cX5_take 245 = .ok (.iload_n 1, 1) := by decide +kernel
theorem dX5_take_246 : decode cX5_take 246 = .ok (.iload_n 2, 1) := by decide +kernel
theorem dX5_take_247 : decode cX5_take 247 = .ok (.iastore, 1) := by decide +kernel
theorem dX5_take_248 : decode cX5_take 248 = .ok (.aload_n 0, 1) := by decide +kernel
theorem dX5_take_249 : decode cX5_take 249 = .ok (.dup, 1) := by decide +kernel
theorem dX5_take_250 : decode cX5_take 250 = .ok (.getfield 131, 3) := by decide +kernel
theorem dX5_take_253 : decode cX5_take 253 = .ok (.iconst 1, 1) := by decide +kernel
theorem dX5_take_254 : decode cX5_take 254 = .ok (.iadd, 1) := by decide +kernel
theorem dX5_take_255 : decode cX5_take 255 = .ok (.putfield 131, 3) := by decide +kernel
theorem dX5_take_258 : decode cX5_take 258 = .ok (.aload_n 0, 1) := by decide +kernel
theorem dX5_take_259 : decode cX5_take 259 = .ok (.iload_n 1, 1) := by decide +kernel
theorem dX5_take_260 : decode cX5_take 260 = .ok (.invokevirtual 134, 3) := by decide +kernel
theorem dX5_take_263 : decode cX5_take 263 = .ok (.iload_n 3, 1) := by decide +kernel
theorem dX5_take_264 : decode cX5_take 264 = .ok (.ireturn, 1) := by decide +kernel
set_option maxRecDepth 20000 in
theorem ggX5_gap_X5_isGauge : GoodIn wsX5_gap wsX5_isGauge := goodIn_r _ [7, 8, 9, 10, 6, 11, 18, 19, 20, 21, 22, 23, 24, 25, 26, 27, 28, 29, 30, 31, 32, 33, 34, 35, 36, 37, 38, 39, 40, 41, 42, 43, 44, 45, 46, 47] (by decide +kernel) (by decide +kernel)
set_option maxRecDepth 20000 in
theorem gX5_gap_X5_isGauge : GoodIn wsX5_gap (wsV RX5 116 RX5 yX5_isGauge wsX5_isGauge) := goodIn_app (goodIn_of _ (by decide +kernel)) ggX5_gap_X5_isGauge
set_option maxRecDepth 20000 in
theorem ggX5_gap_X5_noted : GoodIn wsX5_gap wsX5_noted := goodIn_r _ [15, 16, 1, 17, 18, 19, 20, 21, 22, 23, 24, 25, 26, 27, 28, 29, 30, 31, 32, 33, 34, 35, 36, 37, 38, 39, 40, 41, 42, 43, 44, 45, 46, 47] (by decide +kernel) (by decide +kernel)
set_option maxRecDepth 20000 in
theorem gX5_gap_X5_noted : GoodIn wsX5_gap (wsV RX5 134 RX5 yX5_noted wsX5_noted) := goodIn_app (goodIn_of _ (by decide +kernel)) ggX5_gap_X5_noted
theorem dX5_gap_0 : decode cX5_gap 0 = .ok (.aload_n 0, 1) := by decide +kernel
theorem dX5_gap_1 : decode cX5_gap 1 = .ok (.iload_n 1, 1) := by decide +kernel
theorem dX5_gap_2 : decode cX5_gap 2 = .ok (.invokevirtual 116, 3) := by decide +kernel
theorem dX5_gap_5 : decode cX5_gap 5 = .ok (.ifCond .ne 6, 3) := by decide +kernel
theorem dX5_gap_8 : decode cX5_gap 8 = .ok (.bipush (-2), 2) := by decide +kernel
theorem dX5_gap_10 : decode cX5_gap 10 = .ok (.ireturn, 1) := by decide +kernel
theorem dX5_gap_11 : decode cX5_gap 11 = .ok (.aload_n 0, 1) := by decide +kernel
theorem dX5_gap_12 : decode cX5_gap 12 = .ok (.getfield 16, 3) := by decide +kernel
theorem dX5_gap_15 : decode cX5_gap 15 = .ok (.iload_n 1, 1) := by decide +kernel
theorem dX5_gap_16 : decode cX5_gap 16 = .ok (.iaload, 1) := by decide +kernel
theorem dX5_gap_17 : decode cX5_gap 17 = .ok (.ldc 103, 2) := by decide +kernel
theorem dX5_gap_19 : decode cX5_gap 19 = .ok (.if_icmp .ne 7, 3) := by decide +kernel
theorem dX5_gap_22 : decode cX5_gap 22 = .ok (.iconst 0, 1) := by decide +kernel
theorem dX5_gap_23 : decode cX5_gap 23 = .ok (.goto 4, 3) := by decide +kernel
theorem dX5_gap_26 : decode cX5_gap 26 = .ok (.iconst 1, 1) := by decide +kernel
theorem dX5_gap_27 : decode cX5_gap 27 = .ok (.istore_n 2, 1) := by decide +kernel
theorem dX5_gap_28 : decode cX5_gap 28 = .ok (.aload_n 0, 1) := by decide +kernel
theorem dX5_gap_29 : decode cX5_gap 29 = .ok (.getfield 16, 3) := by decide +kernel
theorem dX5_gap_32 : decode cX5_gap 32 = .ok (.iload_n 1, 1) := by decide +kernel
theorem dX5_gap_33 : decode cX5_gap 33 = .ok (.ldc 103, 2) := by decide +kernel
theorem dX5_gap_35 : decode cX5_gap 35 = .ok (.iastore, 1) := by decide +kernel
theorem dX5_gap_36 : decode cX5_gap 36 = .ok (.aload_n 0, 1) := by decide +kernel
theorem dX5_gap_37 : decode cX5_gap 37 = .ok (.iload_n 1, 1) := by decide +kernel
theorem dX5_gap_38 : decode cX5_gap 38 = .ok (.invokevirtual 134, 3) := by decide +kernel
theorem dX5_gap_41 : decode cX5_gap 41 = .ok (.iload_n 2, 1) := by decide +kernel
theorem dX5_gap_42 : decode cX5_gap 42 = .ok (.ireturn, 1) := by decide +kernel
set_option maxRecDepth 20000 in
theorem ggX5_clear_X5_isGauge : GoodIn wsX5_clear wsX5_isGauge := goodIn_r _ [9, 10, 11, 12, 8, 13, 14, 15, 16, 17, 18, 19, 20, 21, 22, 23, 24, 25, 26, 27, 28, 29, 30, 31, 32, 33, 34, 35, 36, 37, 38, 39, 40, 41, 42, 43] (by decide +kernel) (by decide +kernel)
set_option maxRecDepth 20000 in
theorem gX5_clear_X5_isGauge : GoodIn wsX5_clear (wsV RX5 116 RX5 yX5_isGauge wsX5_isGauge) := goodIn_app (goodIn_of _ (by decide +kernel)) ggX5_clear_X5_isGauge
theorem dX5_clear_0 : decode cX5_clear 0 = .ok (.aload_n 0, 1) := by decide +kernel
theorem dX5_clear_1 : decode cX5_clear 1 = .ok (.iload_n 1, 1) := by decide +kernel
theorem dX5_clear_2 : decode cX5_clear 2 = .ok (.invokevirtual 116, 3) := by decide +kernel
theorem dX5_clear_5 : decode cX5_clear 5 = .ok (.ifCond .ne 6, 3) := by decide +kernel
theorem dX5_clear_8 : decode cX5_clear 8 = .ok (.bipush (-2), 2) := by decide +kernel
theorem dX5_clear_10 : decode cX5_clear 10 = .ok (.ireturn, 1) := by decide +kernel
theorem dX5_clear_11 : decode cX5_clear 11 = .ok (.aload_n 0, 1) := by decide +kernel
theorem dX5_clear_12 : decode cX5_clear 12 = .ok (.getfield 29, 3) := by decide +kernel
theorem dX5_clear_15 : decode cX5_clear 15 = .ok (.iload_n 1, 1) := by decide +kernel
theorem dX5_clear_16 : decode cX5_clear 16 = .ok (.ldc 103, 2) := by decide +kernel
theorem dX5_clear_18 : decode cX5_clear 18 = .ok (.iastore, 1) := by decide +kernel
theorem dX5_clear_19 : decode cX5_clear 19 = .ok (.aload_n 0, 1) := by decide +kernel
theorem dX5_clear_20 : decode cX5_clear 20 = .ok (.getfield 32, 3) := by decide +kernel
theorem dX5_clear_23 : decode cX5_clear 23 = .ok (.iload_n 1, 1) := by decide +kernel
theorem dX5_clear_24 : decode cX5_clear 24 = .ok (.ldc 103, 2) := by decide +kernel
theorem dX5_clear_26 : decode cX5_clear 26 = .ok (.iastore, 1) := by decide +kernel
theorem dX5_clear_27 : decode cX5_clear 27 = .ok (.aload_n 0, 1) := by decide +kernel
theorem dX5_clear_28 : decode cX5_clear 28 = .ok (.getfield 41, 3) := by decide +kernel
theorem dX5_clear_31 : decode cX5_clear 31 = .ok (.iload_n 1, 1) := by decide +kernel
theorem dX5_clear_32 : decode cX5_clear 32 = .ok (.iconst 0, 1) := by decide +kernel
theorem dX5_clear_33 : decode cX5_clear 33 = .ok (.iastore, 1) := by decide +kernel
theorem dX5_clear_34 : decode cX5_clear 34 = .ok (.iconst 1, 1) := by decide +kernel
theorem dX5_clear_35 : decode cX5_clear 35 = .ok (.ireturn, 1) := by decide +kernel
set_option maxRecDepth 20000 in
theorem ggX5_shown_X5_isGauge : GoodIn wsX5_shown wsX5_isGauge := goodIn_r _ [7, 8, 9, 10, 6, 11, 12, 13, 14, 15, 16, 17, 18, 19, 20, 21, 22, 23, 24, 25, 26, 27, 28, 29, 30, 31, 32, 33, 34, 35, 36, 37, 38, 39, 40, 41] (by decide +kernel) (by decide +kernel)
set_option maxRecDepth 20000 in
theorem gX5_shown_X5_isGauge : GoodIn wsX5_shown (wsV RX5 116 RX5 yX5_isGauge wsX5_isGauge) := goodIn_app (goodIn_of _ (by decide +kernel)) ggX5_shown_X5_isGauge
theorem dX5_shown_0 : decode cX5_shown 0 = .ok (.aload_n 0, 1) := by decide +kernel
theorem dX5_shown_1 : decode cX5_shown 1 = .ok (.iload_n 1, 1) := by decide +kernel
theorem dX5_shown_2 : decode cX5_shown 2 = .ok (.invokevirtual 116, 3) := by decide +kernel
theorem dX5_shown_5 : decode cX5_shown 5 = .ok (.ifCond .eq 12, 3) := by decide +kernel
theorem dX5_shown_8 : decode cX5_shown 8 = .ok (.aload_n 0, 1) := by decide +kernel
theorem dX5_shown_9 : decode cX5_shown 9 = .ok (.getfield 16, 3) := by decide +kernel
theorem dX5_shown_12 : decode cX5_shown 12 = .ok (.iload_n 1, 1) := by decide +kernel
theorem dX5_shown_13 : decode cX5_shown 13 = .ok (.iaload, 1) := by decide +kernel
theorem dX5_shown_14 : decode cX5_shown 14 = .ok (.goto 5, 3) := by decide +kernel
theorem dX5_shown_17 : decode cX5_shown 17 = .ok (.ldc 103, 2) := by decide +kernel
theorem dX5_shown_19 : decode cX5_shown 19 = .ok (.ireturn, 1) := by decide +kernel
set_option maxRecDepth 20000 in
theorem ggX5_mark_X5_isGauge : GoodIn wsX5_mark wsX5_isGauge := goodIn_r _ [8, 9, 10, 11, 7, 12, 13, 14, 15, 16, 17, 18, 19, 20, 21, 22, 23, 24, 25, 26, 27, 28, 29, 30, 31, 32, 33, 34, 35, 36, 37, 38, 39, 40, 41, 42] (by decide +kernel) (by decide +kernel)
set_option maxRecDepth 20000 in
theorem gX5_mark_X5_isGauge : GoodIn wsX5_mark (wsV RX5 116 RX5 yX5_isGauge wsX5_isGauge) := goodIn_app (goodIn_of _ (by decide +kernel)) ggX5_mark_X5_isGauge
theorem dX5_mark_0 : decode cX5_mark 0 = .ok (.aload_n 0, 1) := by decide +kernel
theorem dX5_mark_1 : decode cX5_mark 1 = .ok (.iload_n 1, 1) := by decide +kernel
theorem dX5_mark_2 : decode cX5_mark 2 = .ok (.invokevirtual 116, 3) := by decide +kernel
theorem dX5_mark_5 : decode cX5_mark 5 = .ok (.ifCond .ne 8, 3) := by decide +kernel
theorem dX5_mark_8 : decode cX5_mark 8 = .ok (.ldc 103, 2) := by decide +kernel
theorem dX5_mark_10 : decode cX5_mark 10 = .ok (.goto 22, 3) := by decide +kernel
theorem dX5_mark_13 : decode cX5_mark 13 = .ok (.iload_n 2, 1) := by decide +kernel
theorem dX5_mark_14 : decode cX5_mark 14 = .ok (.ifCond .eq 12, 3) := by decide +kernel
theorem dX5_mark_17 : decode cX5_mark 17 = .ok (.aload_n 0, 1) := by decide +kernel
theorem dX5_mark_18 : decode cX5_mark 18 = .ok (.getfield 29, 3) := by decide +kernel
theorem dX5_mark_21 : decode cX5_mark 21 = .ok (.iload_n 1, 1) := by decide +kernel
theorem dX5_mark_22 : decode cX5_mark 22 = .ok (.iaload, 1) := by decide +kernel
theorem dX5_mark_23 : decode cX5_mark 23 = .ok (.goto 9, 3) := by decide +kernel
theorem dX5_mark_26 : decode cX5_mark 26 = .ok (.aload_n 0, 1) := by decide +kernel
theorem dX5_mark_27 : decode cX5_mark 27 = .ok (.getfield 32, 3) := by decide +kernel
theorem dX5_mark_30 : decode cX5_mark 30 = .ok (.iload_n 1, 1) := by decide +kernel
theorem dX5_mark_31 : decode cX5_mark 31 = .ok (.iaload, 1) := by decide +kernel
theorem dX5_mark_32 : decode cX5_mark 32 = .ok (.ireturn, 1) := by decide +kernel
set_option maxRecDepth 20000 in
theorem ggX5_stale_X5_isGauge : GoodIn wsX5_stale wsX5_isGauge := goodIn_r _ [6, 7, 8, 9, 5, 10, 11, 12, 13, 14, 15, 16, 17, 18, 19, 20, 21, 22, 23, 24, 25, 26, 27, 28, 29, 30, 31, 32, 33, 34, 35, 36, 37, 38, 39, 40] (by decide +kernel) (by decide +kernel)
set_option maxRecDepth 20000 in
theorem gX5_stale_X5_isGauge : GoodIn wsX5_stale (wsV RX5 116 RX5 yX5_isGauge wsX5_isGauge) := goodIn_app (goodIn_of _ (by decide +kernel)) ggX5_stale_X5_isGauge
theorem dX5_stale_0 : decode cX5_stale 0 = .ok (.aload_n 0, 1) := by decide +kernel
theorem dX5_stale_1 : decode cX5_stale 1 = .ok (.iload_n 1, 1) := by decide +kernel
theorem dX5_stale_2 : decode cX5_stale 2 = .ok (.invokevirtual 116, 3) := by decide +kernel
theorem dX5_stale_5 : decode cX5_stale 5 = .ok (.ifCond .eq 12, 3) := by decide +kernel
theorem dX5_stale_8 : decode cX5_stale 8 = .ok (.aload_n 0, 1) := by decide +kernel
theorem dX5_stale_9 : decode cX5_stale 9 = .ok (.getfield 35, 3) := by decide +kernel
theorem dX5_stale_12 : decode cX5_stale 12 = .ok (.iload_n 1, 1) := by decide +kernel
theorem dX5_stale_13 : decode cX5_stale 13 = .ok (.iaload, 1) := by decide +kernel
theorem dX5_stale_14 : decode cX5_stale 14 = .ok (.goto 5, 3) := by decide +kernel
theorem dX5_stale_17 : decode cX5_stale 17 = .ok (.bipush (-2), 2) := by decide +kernel
theorem dX5_stale_19 : decode cX5_stale 19 = .ok (.ireturn, 1) := by decide +kernel
set_option maxRecDepth 20000 in
theorem ggX5_stands_X5_isIn : GoodIn wsX5_stands wsX5_isIn := goodIn_r _ [5] (by decide +kernel) (by decide +kernel)
set_option maxRecDepth 20000 in
theorem gX5_stands_X5_isIn : GoodIn wsX5_stands (va_wsS RX5 88 yX5_isIn wsX5_isIn) := goodIn_app (goodIn_of _ (by decide +kernel)) ggX5_stands_X5_isIn
set_option maxRecDepth 20000 in
theorem ggX5_stands_X5_isGauge : GoodIn wsX5_stands wsX5_isGauge := goodIn_r _ [9, 10, 2, 3, 4, 5, 32, 33, 34, 35, 36, 37, 38, 39, 40, 41, 42, 43, 44, 45, 46, 47, 48, 49, 50, 51, 52, 53, 54, 55, 56, 57, 58, 59, 60, 61] (by decide +kernel) (by decide +kernel)
set_option maxRecDepth 20000 in
theorem gX5_stands_X5_isGauge : GoodIn wsX5_stands (wsV RX5 116 RX5 yX5_isGauge wsX5_isGauge) := goodIn_app (goodIn_of _ (by decide +kernel)) ggX5_stands_X5_isGauge
set_option maxRecDepth 20000 in
theorem ggX5_stands_X5_related : GoodIn wsX5_stands wsX5_related := goodIn_r _ [14, 15, 16, 17, 18, 4, 19, 20, 21, 22, 23, 24, 25, 26, 27, 28, 29, 30, 31, 32, 33, 34, 35, 36, 37, 38, 39, 40, 41, 42, 43, 44, 45, 46, 47, 48, 49, 50, 51, 52, 53, 54, 55, 56, 57, 58, 59, 60, 61] (by decide +kernel) (by decide +kernel)
set_option maxRecDepth 20000 in
theorem gX5_stands_X5_related : GoodIn wsX5_stands (wsV RX5 138 RX5 yX5_related wsX5_related) := goodIn_app (goodIn_of _ (by decide +kernel)) ggX5_stands_X5_related
theorem dX5_stands_0 : decode cX5_stands 0 = .ok (.iload_n 2, 1) := by decide +kernel
theorem dX5_stands_1 : decode cX5_stands 1 = .ok (.bipush 6, 2) := by decide +kernel
theorem dX5_stands_3 : decode cX5_stands 3 = .ok (.invokestatic 88, 3) := by decide +kernel
theorem dX5_stands_6 : decode cX5_stands 6 = .ok (.ifCond .ne 6, 3) := by decide +kernel
theorem dX5_stands_9 : decode cX5_stands 9 = .ok (.bipush (-4), 2) := by decide +kernel
theorem dX5_stands_11 : decode cX5_stands 11 = .ok (.ireturn, 1) := by decide +kernel
theorem dX5_stands_12 : decode cX5_stands 12 = .ok (.aload_n 0, 1) := by decide +kernel
theorem dX5_stands_13 : decode cX5_stands 13 = .ok (.iload_n 1, 1) := by decide +kernel
theorem dX5_stands_14 : decode cX5_stands 14 = .ok (.invokevirtual 116, 3) := by decide +kernel
theorem dX5_stands_17 : decode cX5_stands 17 = .ok (.ifCond .eq 11, 3) := by decide +kernel
theorem dX5_stands_20 : decode cX5_stands 20 = .ok (.aload_n 0, 1) := by decide +kernel
theorem dX5_stands_21 : decode cX5_stands 21 = .ok (.iload_n 3, 1) := by decide +kernel
theorem dX5_stands_22 : decode cX5_stands 22 = .ok (.invokevirtual 116, 3) := by decide +kernel
theorem dX5_stands_25 : decode cX5_stands 25 = .ok (.ifCond .ne 6, 3) := by decide +kernel
theorem dX5_stands_28 : decode cX5_stands 28 = .ok (.bipush (-2), 2) := by decide +kernel
theorem dX5_stands_30 : decode cX5_stands 30 = .ok (.ireturn, 1) := by decide +kernel
theorem dX5_stands_31 : decode cX5_stands 31 = .ok (.aload_n 0, 1) := by decide +kernel
theorem dX5_stands_32 : decode cX5_stands 32 = .ok (.iload_n 1, 1) := by decide +kernel
theorem dX5_stands_33 : decode cX5_stands 33 = .ok (.aload_n 0, 1) := by decide +kernel
theorem dX5_stands_34 : decode cX5_stands 34 = .ok (.getfield 16, 3) := by decide +kernel
theorem dX5_stands_37 : decode cX5_stands 37 = .ok (.iload_n 1, 1) := by decide +kernel
theorem dX5_stands_38 : decode cX5_stands 38 = .ok (.iaload, 1) := by decide +kernel
theorem dX5_stands_39 : decode cX5_stands 39 = .ok (.iload_n 2, 1) := by decide +kernel
theorem dX5_stands_40 : decode cX5_stands 40 = .ok (.iload_n 3, 1) := by decide +kernel
theorem dX5_stands_41 : decode cX5_stands 41 = .ok (.aload_n 0, 1) := by decide +kernel
theorem dX5_stands_42 : decode cX5_stands 42 = .ok (.getfield 16, 3) := by decide +kernel
theorem dX5_stands_45 : decode cX5_stands 45 = .ok (.iload_n 3, 1) := by decide +kernel
theorem dX5_stands_46 : decode cX5_stands 46 = .ok (.iaload, 1) := by decide +kernel
theorem dX5_stands_47 : decode cX5_stands 47 = .ok (.invokevirtual 138, 3) := by decide +kernel
theorem dX5_stands_50 : decode cX5_stands 50 = .ok (.ifCond .eq 7, 3) := by decide +kernel
theorem dX5_stands_53 : decode cX5_stands 53 = .ok (.iconst 1, 1) := by decide +kernel
theorem dX5_stands_54 : decode cX5_stands 54 = .ok (.goto 4, 3) := by decide +kernel
theorem dX5_stands_57 : decode cX5_stands 57 = .ok (.iconst 0, 1) := by decide +kernel
theorem dX5_stands_58 : decode cX5_stands 58 = .ok (.ireturn, 1) := by decide +kernel
theorem dX5_defines_0 : decode cX5_defines 0 = .ok (.aload_n 0, 1) := by decide +kernel
theorem dX5_defines_1 : decode cX5_defines 1 = .ok (.getfield 44, 3) := by decide +kernel
theorem dX5_defines_4 : decode cX5_defines 4 = .ok (.iload_n 1, 1) := by decide +kernel
theorem dX5_defines_5 : decode cX5_defines 5 = .ok (.iconst 1, 1) := by decide +kernel
theorem dX5_defines_6 : decode cX5_defines 6 = .ok (.bastore, 1) := by decide +kernel
theorem dX5_defines_7 : decode cX5_defines 7 = .ok (.aload_n 0, 1) := by decide +kernel
theorem dX5_defines_8 : decode cX5_defines 8 = .ok (.getfield 47, 3) := by decide +kernel
theorem dX5_defines_11 : decode cX5_defines 11 = .ok (.iload_n 1, 1) := by decide +kernel
theorem dX5_defines_12 : decode cX5_defines 12 = .ok (.iload 6, 2) := by decide +kernel
theorem dX5_defines_14 : decode cX5_defines 14 = .ok (.bastore, 1) := by decide +kernel
theorem dX5_defines_15 : decode cX5_defines 15 = .ok (.aload_n 0, 1) := by decide +kernel
theorem dX5_defines_16 : decode cX5_defines 16 = .ok (.getfield 50, 3) := by decide +kernel
theorem dX5_defines_19 : decode cX5_defines 19 = .ok (.iload_n 1, 1) := by decide +kernel
theorem dX5_defines_20 : decode cX5_defines 20 = .ok (.iload_n 2, 1) := by decide +kernel
theorem dX5_defines_21 : decode cX5_defines 21 = .ok (.iastore, 1) := by decide +kernel
theorem dX5_defines_22 : decode cX5_defines 22 = .ok (.aload_n 0, 1) := by decide +kernel
theorem dX5_defines_23 : decode cX5_defines 23 = .ok (.getfield 53, 3) := by decide +kernel
theorem dX5_defines_26 : decode cX5_defines 26 = .ok (.iload_n 1, 1) := by decide +kernel
theorem dX5_defines_27 : decode cX5_defines 27 = .ok (.iload_n 3, 1) := by decide +kernel
theorem dX5_defines_28 : decode cX5_defines 28 = .ok (.iastore, 1) := by decide +kernel
theorem dX5_defines_29 : decode cX5_defines 29 = .ok (.aload_n 0, 1) := by decide +kernel
theorem dX5_defines_30 : decode cX5_defines 30 = .ok (.getfield 56, 3) := by decide +kernel
theorem dX5_defines_33 : decode cX5_defines 33 = .ok (.iload_n 1, 1) := by decide +kernel
theorem dX5_defines_34 : decode cX5_defines 34 = .ok (.iload 4, 2) := by decide +kernel
theorem dX5_defines_36 : decode cX5_defines 36 = .ok (.iastore, 1) := by decide +kernel
theorem dX5_defines_37 : decode cX5_defines 37 = .ok (.aload_n 0, 1) := by decide +kernel
theorem dX5_defines_38 : decode cX5_defines 38 = .ok (.getfield 59, 3) := by decide +kernel
theorem dX5_defines_41 : decode cX5_defines 41 = .ok (.iload_n 1, 1) := by decide +kernel
theorem dX5_defines_42 : decode cX5_defines 42 = .ok (.iload 5, 2) := by decide +kernel
theorem dX5_defines_44 : decode cX5_defines 44 = .ok (.iastore, 1) := by decide +kernel
theorem dX5_defines_45 : decode cX5_defines 45 = .ok (.iconst 1, 1) := by decide +kernel
theorem dX5_defines_46 : decode cX5_defines 46 = .ok (.ireturn, 1) := by decide +kernel
set_option maxRecDepth 20000 in
theorem ggX5_between_X5_isIn : GoodIn wsX5_between wsX5_isIn := goodIn_r _ [4] (by decide +kernel) (by decide +kernel)
set_option maxRecDepth 20000 in
theorem gX5_between_X5_isIn : GoodIn wsX5_between (va_wsS RX5 88 yX5_isIn wsX5_isIn) := goodIn_app (goodIn_of _ (by decide +kernel)) ggX5_between_X5_isIn
set_option maxRecDepth 20000 in
theorem ggX5_between_X5_isGauge : GoodIn wsX5_between wsX5_isGauge := goodIn_r _ [8, 9, 1, 2, 3, 4, 20, 21, 22, 23, 24, 25, 26, 27, 28, 29, 30, 31, 32, 33, 34, 35, 36, 37, 38, 39, 40, 41, 42, 43, 44, 45, 46, 47, 48, 49] (by decide +kernel) (by decide +kernel)
set_option maxRecDepth 20000 in
theorem gX5_between_X5_isGauge : GoodIn wsX5_between (wsV RX5 116 RX5 yX5_isGauge wsX5_isGauge) := goodIn_app (goodIn_of _ (by decide +kernel)) ggX5_between_X5_isGauge
set_option maxRecDepth 20000 in
theorem ggX5_between_X5_defines : GoodIn wsX5_between wsX5_defines := goodIn_r _ [13, 14, 15, 16, 17, 18, 19, 20, 21, 22, 23, 24, 25, 26, 27, 28, 29, 30, 31, 32, 33, 34, 35, 36, 37, 38, 39, 40, 41, 42, 43, 44, 45, 46, 47, 48, 49] (by decide +kernel) (by decide +kernel)
set_option maxRecDepth 20000 in
theorem gX5_between_X5_defines : GoodIn wsX5_between (wsV RX5 142 RX5 yX5_defines wsX5_defines) := goodIn_app (goodIn_of _ (by decide +kernel)) ggX5_between_X5_defines
theorem dX5_between_0 : decode cX5_between 0 = .ok (.iload_n 1, 1) := by decide +kernel
theorem dX5_between_1 : decode cX5_between 1 = .ok (.bipush 24, 2) := by decide +kernel
theorem dX5_between_3 : decode cX5_between 3 = .ok (.invokestatic 88, 3) := by decide +kernel
theorem dX5_between_6 : decode cX5_between 6 = .ok (.ifCond .eq 12, 3) := by decide +kernel
theorem dX5_between_9 : decode cX5_between 9 = .ok (.iload_n 2, 1) := by decide +kernel
theorem dX5_between_10 : decode cX5_between 10 = .ok (.bipush 6, 2) := by decide +kernel
theorem dX5_between_12 : decode cX5_between 12 = .ok (.invokestatic 88, 3) := by decide +kernel
theorem dX5_between_15 : decode cX5_between 15 = .ok (.ifCond .ne 6, 3) := by decide +kernel
theorem dX5_between_18 : decode cX5_between 18 = .ok (.bipush (-4), 2) := by decide +kernel
theorem dX5_between_20 : decode cX5_between 20 = .ok (.ireturn, 1) := by decide +kernel
theorem dX5_between_21 : decode cX5_between 21 = .ok (.aload_n 0, 1) := by decide +kernel
theorem dX5_between_22 : decode cX5_between 22 = .ok (.iload_n 3, 1) := by decide +kernel
theorem dX5_between_23 : decode cX5_between 23 = .ok (.invokevirtual 116, 3) := by decide +kernel
theorem dX5_between_26 : decode cX5_between 26 = .ok (.ifCond .eq 27, 3) := by decide +kernel
theorem dX5_between_29 : decode cX5_between 29 = .ok (.aload_n 0, 1) := by decide +kernel
theorem dX5_between_30 : decode cX5_between 30 = .ok (.iload 4, 2) := by decide +kernel
theorem dX5_between_32 : decode cX5_between 32 = .ok (.invokevirtual 116, 3) := by decide +kernel
theorem dX5_between_35 : decode cX5_between 35 = .ok (.ifCond .eq 18, 3) := by decide +kernel
theorem dX5_between_38 : decode cX5_between 38 = .ok (.aload_n 0, 1) := by decide +kernel
theorem dX5_between_39 : decode cX5_between 39 = .ok (.iload_n 1, 1) := by decide +kernel
theorem dX5_between_40 : decode cX5_between 40 = .ok (.iload_n 2, 1) := by decide +kernel
theorem dX5_between_41 : decode cX5_between 41 = .ok (.iload_n 3, 1) := by decide +kernel
theorem dX5_between_42 : decode cX5_between 42 = .ok (.iload 4, 2) := by decide +kernel
theorem dX5_between_44 : decode cX5_between 44 = .ok (.iconst 0, 1) := by decide +kernel
theorem dX5_between_45 : decode cX5_between 45 = .ok (.iload 5, 2) := by decide +kernel
theorem dX5_between_47 : decode cX5_between 47 = .ok (.invokevirtual 142, 3) := by decide +kernel
theorem dX5_between_50 : decode cX5_between 50 = .ok (.goto 5, 3) := by decide +kernel
theorem dX5_between_53 : decode cX5_between 53 = .ok (.bipush (-2), 2) := by decide +kernel
theorem dX5_between_55 : decode cX5_between 55 = .ok (.ireturn, 1) := by decide +kernel
set_option maxRecDepth 20000 in
theorem ggX5_level_X5_isIn : GoodIn wsX5_level wsX5_isIn := goodIn_r _ [4] (by decide +kernel) (by decide +kernel)
set_option maxRecDepth 20000 in
theorem gX5_level_X5_isIn : GoodIn wsX5_level (va_wsS RX5 88 yX5_isIn wsX5_isIn) := goodIn_app (goodIn_of _ (by decide +kernel)) ggX5_level_X5_isIn
set_option maxRecDepth 20000 in
theorem ggX5_level_X5_isNumber : GoodIn wsX5_level wsX5_isNumber := goodIn_r _ [7, 8, 9] (by decide +kernel) (by decide +kernel)
set_option maxRecDepth 20000 in
theorem gX5_level_X5_isNumber : GoodIn wsX5_level (va_wsS RX5 112 yX5_isNumber wsX5_isNumber) := goodIn_app (goodIn_of _ (by decide +kernel)) ggX5_level_X5_isNumber
set_option maxRecDepth 20000 in
theorem ggX5_level_X5_isGauge : GoodIn wsX5_level wsX5_isGauge := goodIn_r _ [13, 14, 1, 2, 3, 4, 25, 26, 27, 28, 29, 30, 31, 32, 33, 34, 35, 36, 37, 38, 39, 40, 41, 42, 43, 44, 45, 46, 47, 48, 49, 50, 51, 52, 53, 54] (by decide +kernel) (by decide +kernel)
set_option maxRecDepth 20000 in
theorem gX5_level_X5_isGauge : GoodIn wsX5_level (wsV RX5 116 RX5 yX5_isGauge wsX5_isGauge) := goodIn_app (goodIn_of _ (by decide +kernel)) ggX5_level_X5_isGauge
set_option maxRecDepth 20000 in
theorem ggX5_level_X5_defines : GoodIn wsX5_level wsX5_defines := goodIn_r _ [18, 19, 20, 21, 22, 23, 24, 25, 26, 27, 28, 29, 30, 31, 32, 33, 34, 35, 36, 37, 38, 39, 40, 41, 42, 43, 44, 45, 46, 47, 48, 49, 50, 51, 52, 53, 54] (by decide +kernel) (by decide +kernel)
set_option maxRecDepth 20000 in
theorem gX5_level_X5_defines : GoodIn wsX5_level (wsV RX5 142 RX5 yX5_defines wsX5_defines) := goodIn_app (goodIn_of _ (by decide +kernel)) ggX5_level_X5_defines
theorem dX5_level_0 : decode cX5_level 0 = .ok (.iload_n 1, 1) := by decide +kernel
theorem dX5_level_1 : decode cX5_level 1 = .ok (.bipush 24, 2) := by decide +kernel
theorem dX5_level_3 : decode cX5_level 3 = .ok (.invokestatic 88, 3) := by decide +kernel
theorem dX5_level_6 : decode cX5_level 6 = .ok (.ifCond .eq 20, 3) := by decide +kernel
theorem dX5_level_9 : decode cX5_level 9 = .ok (.iload_n 2, 1) := by decide +kernel
theorem dX5_level_10 : decode cX5_level 10 = .ok (.bipush 6, 2) := by decide +kernel
theorem dX5_level_12 : decode cX5_level 12 = .ok (.invokestatic 88, 3) := by decide +kernel
theorem dX5_level_15 : decode cX5_level 15 = .ok (.ifCond .eq 11, 3) := by decide +kernel
theorem dX5_level_18 : decode cX5_level 18 = .ok (.iload 4, 2) := by decide +kernel
theorem dX5_level_20 : decode cX5_level 20 = .ok (.invokestatic 112, 3) := by decide +kernel
theorem dX5_level_23 : decode cX5_level 23 = .ok (.ifCond .ne 6, 3) := by decide +kernel
theorem dX5_level_26 : decode cX5_level 26 = .ok (.bipush (-4), 2) := by decide +kernel
theorem dX5_level_28 : decode cX5_level 28 = .ok (.ireturn, 1) := by decide +kernel
theorem dX5_level_29 : decode cX5_level 29 = .ok (.aload_n 0, 1) := by decide +kernel
theorem dX5_level_30 : decode cX5_level 30 = .ok (.iload_n 3, 1) := by decide +kernel
theorem dX5_level_31 : decode cX5_level 31 = .ok (.invokevirtual 116, 3) := by decide +kernel
theorem dX5_level_34 : decode cX5_level 34 = .ok (.ifCond .eq 18, 3) := by decide +kernel
theorem dX5_level_37 : decode cX5_level 37 = .ok (.aload_n 0, 1) := by decide +kernel
theorem dX5_level_38 : decode cX5_level 38 = .ok (.iload_n 1, 1) := by decide +kernel
theorem dX5_level_39 : decode cX5_level 39 = .ok (.iload_n 2, 1) := by decide +kernel
theorem dX5_level_40 : decode cX5_level 40 = .ok (.iload_n 3, 1) := by decide +kernel
theorem dX5_level_41 : decode cX5_level 41 = .ok (.iconst (-1), 1) := by decide +kernel
theorem dX5_level_42 : decode cX5_level 42 = .ok (.iload 4, 2) := by decide +kernel
theorem dX5_level_44 : decode cX5_level 44 = .ok (.iload 5, 2) := by decide +kernel
theorem dX5_level_46 : decode cX5_level 46 = .ok (.invokevirtual 142, 3) := by decide +kernel
theorem dX5_level_49 : decode cX5_level 49 = .ok (.goto 5, 3) := by decide +kernel
theorem dX5_level_52 : decode cX5_level 52 = .ok (.bipush (-2), 2) := by decide +kernel
theorem dX5_level_54 : decode cX5_level 54 = .ok (.ireturn, 1) := by decide +kernel
set_option maxRecDepth 20000 in
theorem ggX5_isHeld_X5_related : GoodIn wsX5_isHeld wsX5_related := goodIn_r _ [11, 12, 13, 14, 15, 10, 16, 17, 18, 19, 20, 21, 22, 23, 24, 25, 26, 27, 28, 29, 30, 31, 32, 33, 34, 35, 36, 37, 38, 39, 40, 41, 42, 43, 44, 45, 46, 47, 48, 49, 50, 51, 52, 53, 54, 55, 56, 57, 58] (by decide +kernel) (by decide +kernel)
set_option maxRecDepth 20000 in
theorem gX5_isHeld_X5_related : GoodIn wsX5_isHeld (wsV RX5 138 RX5 yX5_related wsX5_related) := goodIn_app (goodIn_of _ (by decide +kernel)) ggX5_isHeld_X5_related
theorem dX5_isHeld_0 : decode cX5_isHeld 0 = .ok (.aload_n 0, 1) := by decide +kernel
theorem dX5_isHeld_1 : decode cX5_isHeld 1 = .ok (.getfield 53, 3) := by decide +kernel
theorem dX5_isHeld_4 : decode cX5_isHeld 4 = .ok (.iload_n 1, 1) := by decide +kernel
theorem dX5_isHeld_5 : decode cX5_isHeld 5 = .ok (.iaload, 1) := by decide +kernel
theorem dX5_isHeld_6 : decode cX5_isHeld 6 = .ok (.istore_n 2, 1) := by decide +kernel
theorem dX5_isHeld_7 : decode cX5_isHeld 7 = .ok (.aload_n 0, 1) := by decide +kernel
theorem dX5_isHeld_8 : decode cX5_isHeld 8 = .ok (.getfield 56, 3) := by decide +kernel
theorem dX5_isHeld_11 : decode cX5_isHeld 11 = .ok (.iload_n 1, 1) := by decide +kernel
theorem dX5_isHeld_12 : decode cX5_isHeld 12 = .ok (.iaload, 1) := by decide +kernel
theorem dX5_isHeld_13 : decode cX5_isHeld 13 = .ok (.iconst (-1), 1) := by decide +kernel
theorem dX5_isHeld_14 : decode cX5_isHeld 14 = .ok (.if_icmp .ne 7, 3) := by decide +kernel
theorem dX5_isHeld_17 : decode cX5_isHeld 17 = .ok (.iload_n 2, 1) := by decide +kernel
theorem dX5_isHeld_18 : decode cX5_isHeld 18 = .ok (.goto 9, 3) := by decide +kernel
theorem dX5_isHeld_21 : decode cX5_isHeld 21 = .ok (.aload_n 0, 1) := by decide +kernel
theorem dX5_isHeld_22 : decode cX5_isHeld 22 = .ok (.getfield 56, 3) := by decide +kernel
theorem dX5_isHeld_25 : decode cX5_isHeld 25 = .ok (.iload_n 1, 1) := by decide +kernel
theorem dX5_isHeld_26 : decode cX5_isHeld 26 = .ok (.iaload, 1) := by decide +kernel
theorem dX5_isHeld_27 : decode cX5_isHeld 27 = .ok (.istore_n 3, 1) := by decide +kernel
theorem dX5_isHeld_28 : decode cX5_isHeld 28 = .ok (.aload_n 0, 1) := by decide +kernel
theorem dX5_isHeld_29 : decode cX5_isHeld 29 = .ok (.getfield 56, 3) := by decide +kernel
theorem dX5_isHeld_32 : decode cX5_isHeld 32 = .ok (.iload_n 1, 1) := by decide +kernel
theorem dX5_isHeld_33 : decode cX5_isHeld 33 = .ok (.iaload, 1) := by decide +kernel
theorem dX5_isHeld_34 : decode cX5_isHeld 34 = .ok (.iconst (-1), 1) := by decide +kernel
theorem dX5_isHeld_35 : decode cX5_isHeld 35 = .ok (.if_icmp .ne 12, 3) := by decide +kernel
theorem dX5_isHeld_38 : decode cX5_isHeld 38 = .ok (.aload_n 0, 1) := by decide +kernel
theorem dX5_isHeld_39 : decode cX5_isHeld 39 = .ok (.getfield 59, 3) := by decide +kernel
theorem dX5_isHeld_42 : decode cX5_isHeld 42 = .ok (.iload_n 1, 1) := by decide +kernel
theorem dX5_isHeld_43 : decode cX5_isHeld 43 = .ok (.iaload, 1) := by decide +kernel
theorem dX5_isHeld_44 : decode cX5_isHeld 44 = .ok (.goto 9, 3) := by decide +kernel
theorem dX5_isHeld_47 : decode cX5_isHeld 47 = .ok (.aload_n 0, 1) := by decide +kernel
theorem dX5_isHeld_48 : decode cX5_isHeld 48 = .ok (.getfield 16, 3) := by decide +kernel
theorem dX5_isHeld_51 : decode cX5_isHeld 51 = .ok (.iload_n 3, 1) := by decide +kernel
theorem dX5_isHeld_52 : decode cX5_isHeld 52 = .ok (.iaload, 1) := by decide +kernel
theorem dX5_isHeld_53 : decode cX5_isHeld 53 = .ok (.istore 4, 2) := by decide +kernel
theorem dX5_isHeld_55 : decode cX5_isHeld 55 = .ok (.aload_n 0, 1) := by decide +kernel
theorem dX5_isHeld_56 : decode cX5_isHeld 56 = .ok (.iload_n 2, 1) := by decide +kernel
theorem dX5_isHeld_57 : decode cX5_isHeld 57 = .ok (.aload_n 0, 1) := by decide +kernel
theorem dX5_isHeld_58 : decode cX5_isHeld 58 = .ok (.getfield 16, 3) := by decide +kernel
theorem dX5_isHeld_61 : decode cX5_isHeld 61 = .ok (.iload_n 2, 1) := by decide +kernel
theorem dX5_isHeld_62 : decode cX5_isHeld 62 = .ok (.iaload, 1) := by decide +kernel
theorem dX5_isHeld_63 : decode cX5_isHeld 63 = .ok (.aload_n 0, 1) := by decide +kernel
theorem dX5_isHeld_64 : decode cX5_isHeld 64 = .ok (.getfield 50, 3) := by decide +kernel
theorem dX5_isHeld_67 : decode cX5_isHeld 67 = .ok (.iload_n 1, 1) := by decide +kernel
theorem dX5_isHeld_68 : decode cX5_isHeld 68 = .ok (.iaload, 1) := by decide +kernel
theorem dX5_isHeld_69 : decode cX5_isHeld 69 = .ok (.iload_n 3, 1) := by decide +kernel
theorem dX5_isHeld_70 : decode cX5_isHeld 70 = .ok (.iload 4, 2) := by decide +kernel
theorem dX5_isHeld_72 : decode cX5_isHeld 72 = .ok (.invokevirtual 138, 3) := by decide +kernel
theorem dX5_isHeld_75 : decode cX5_isHeld 75 = .ok (.aload_n 0, 1) := by decide +kernel
theorem dX5_isHeld_76 : decode cX5_isHeld 76 = .ok (.getfield 47, 3) := by decide +kernel
theorem dX5_isHeld_79 : decode cX5_isHeld 79 = .ok (.iload_n 1, 1) := by decide +kernel
theorem dX5_isHeld_80 : decode cX5_isHeld 80 = .ok (.baload, 1) := by decide +kernel
theorem dX5_isHeld_81 : decode cX5_isHeld 81 = .ok (.if_icmp .eq 7, 3) := by decide +kernel
theorem dX5_isHeld_84 : decode cX5_isHeld 84 = .ok (.iconst 1, 1) := by decide +kernel
theorem dX5_isHeld_85 : decode cX5_isHeld 85 = .ok (.goto 4, 3) := by decide +kernel
theorem dX5_isHeld_88 : decode cX5_isHeld 88 = .ok (.iconst 0, 1) := by decide +kernel
theorem dX5_isHeld_89 : decode cX5_isHeld 89 = .ok (.ireturn, 1) := by decide +kernel
set_option maxRecDepth 20000 in
theorem ggX5_isCondition_X5_isIn : GoodIn wsX5_isCondition wsX5_isIn := goodIn_r _ [5] (by decide +kernel) (by decide +kernel)
set_option maxRecDepth 20000 in
theorem gX5_isCondition_X5_isIn : GoodIn wsX5_isCondition (va_wsS RX5 88 yX5_isIn wsX5_isIn) := goodIn_app (goodIn_of _ (by decide +kernel)) ggX5_isCondition_X5_isIn
theorem dX5_isCondition_0 : decode cX5_isCondition 0 = .ok (.iload_n 1, 1) := by decide +kernel
theorem dX5_isCondition_1 : decode cX5_isCondition 1 = .ok (.bipush 24, 2) := by decide +kernel
theorem dX5_isCondition_3 : decode cX5_isCondition 3 = .ok (.invokestatic 88, 3) := by decide +kernel
theorem dX5_isCondition_6 : decode cX5_isCondition 6 = .ok (.ifCond .eq 16, 3) := by decide +kernel
theorem dX5_isCondition_9 : decode cX5_isCondition 9 = .ok (.aload_n 0, 1) := by decide +kernel
theorem dX5_isCondition_10 : decode cX5_isCondition 10 = .ok (.getfield 44, 3) := by decide +kernel
theorem dX5_isCondition_13 : decode cX5_isCondition 13 = .ok (.iload_n 1, 1) := by decide +kernel
theorem dX5_isCondition_14 : decode cX5_isCondition 14 = .ok (.baload, 1) := by decide +kernel
theorem dX5_isCondition_15 : decode cX5_isCondition 15 = .ok (.ifCond .eq 7, 3) := by decide +kernel
theorem dX5_isCondition_18 : decode cX5_isCondition 18 = .ok (.iconst 1, 1) := by decide +kernel
theorem dX5_isCondition_19 : decode cX5_isCondition 19 = .ok (.goto 4, 3) := by decide +kernel
theorem dX5_isCondition_22 : decode cX5_isCondition 22 = .ok (.iconst 0, 1) := by decide +kernel
theorem dX5_isCondition_23 : decode cX5_isCondition 23 = .ok (.ireturn, 1) := by decide +kernel
set_option maxRecDepth 20000 in
theorem ggX5_holds_X5_isCondition : GoodIn wsX5_holds wsX5_isCondition := goodIn_r _ [5, 6, 7, 8, 4, 9, 41, 42, 43, 44, 45, 46, 47, 48, 49, 50, 51, 52, 53, 54, 55, 56, 57, 58, 59, 60, 61, 62, 63, 64, 65, 66, 67, 68, 69, 70] (by decide +kernel) (by decide +kernel)
set_option maxRecDepth 20000 in
theorem gX5_holds_X5_isCondition : GoodIn wsX5_holds (wsV RX5 146 RX5 yX5_isCondition wsX5_isCondition) := goodIn_app (goodIn_of _ (by decide +kernel)) ggX5_holds_X5_isCondition
set_option maxRecDepth 20000 in
theorem ggX5_holds_X5_isHeld : GoodIn wsX5_holds wsX5_isHeld := goodIn_r _ [13, 14, 15, 16, 17, 18, 19, 20, 21, 22, 4, 23, 24, 25, 26, 27, 28, 29, 30, 31, 32, 33, 34, 35, 36, 37, 38, 39, 40, 41, 42, 43, 44, 45, 46, 47, 48, 49, 50, 51, 52, 53, 54, 55, 56, 57, 58, 59, 60, 61, 62, 63, 64, 65, 66, 67, 68, 69, 70] (by decide +kernel) (by decide +kernel)
set_option maxRecDepth 20000 in
theorem gX5_holds_X5_isHeld : GoodIn wsX5_holds (wsV RX5 149 RX5 yX5_isHeld wsX5_isHeld) := goodIn_app (goodIn_of _ (by decide +kernel)) ggX5_holds_X5_isHeld
theorem dX5_holds_0 : decode cX5_holds 0 = .ok (.aload_n 0, 1) := by decide +kernel
theorem dX5_holds_1 : decode cX5_holds 1 = .ok (.iload_n 1, 1) := by decide +kernel
theorem dX5_holds_2 : decode cX5_holds 2 = .ok (.invokevirtual 146, 3) := by decide +kernel
theorem dX5_holds_5 : decode cX5_holds 5 = .ok (.ifCond .ne 8, 3) := by decide +kernel
theorem dX5_holds_8 : decode cX5_holds 8 = .ok (.bipush (-2), 2) := by decide +kernel
theorem dX5_holds_10 : decode cX5_holds 10 = .ok (.goto 16, 3) := by decide +kernel
theorem dX5_holds_13 : decode cX5_holds 13 = .ok (.aload_n 0, 1) := by decide +kernel
theorem dX5_holds_14 : decode cX5_holds 14 = .ok (.iload_n 1, 1) := by decide +kernel
theorem dX5_holds_15 : decode cX5_holds 15 = .ok (.invokevirtual 149, 3) := by decide +kernel
theorem dX5_holds_18 : decode cX5_holds 18 = .ok (.ifCond .eq 7, 3) := by decide +kernel
theorem dX5_holds_21 : decode cX5_holds 21 = .ok (.iconst 1, 1) := by decide +kernel
theorem dX5_holds_22 : decode cX5_holds 22 = .ok (.goto 4, 3) := by decide +kernel
theorem dX5_holds_25 : decode cX5_holds 25 = .ok (.iconst 0, 1) := by decide +kernel
theorem dX5_holds_26 : decode cX5_holds 26 = .ok (.ireturn, 1) := by decide +kernel
set_option maxRecDepth 20000 in
theorem ggX5_isTrip_X5_isIn : GoodIn wsX5_isTrip wsX5_isIn := goodIn_r _ [5] (by decide +kernel) (by decide +kernel)
set_option maxRecDepth 20000 in
theorem gX5_isTrip_X5_isIn : GoodIn wsX5_isTrip (va_wsS RX5 88 yX5_isIn wsX5_isIn) := goodIn_app (goodIn_of _ (by decide +kernel)) ggX5_isTrip_X5_isIn
theorem dX5_isTrip_0 : decode cX5_isTrip 0 = .ok (.iload_n 1, 1) := by decide +kernel
theorem dX5_isTrip_1 : decode cX5_isTrip 1 = .ok (.bipush 8, 2) := by decide +kernel
theorem dX5_isTrip_3 : decode cX5_isTrip 3 = .ok (.invokestatic 88, 3) := by decide +kernel
theorem dX5_isTrip_6 : decode cX5_isTrip 6 = .ok (.ifCond .eq 16, 3) := by decide +kernel
theorem dX5_isTrip_9 : decode cX5_isTrip 9 = .ok (.aload_n 0, 1) := by decide +kernel
theorem dX5_isTrip_10 : decode cX5_isTrip 10 = .ok (.getfield 71, 3) := by decide +kernel
theorem dX5_isTrip_13 : decode cX5_isTrip 13 = .ok (.iload_n 1, 1) := by decide +kernel
theorem dX5_isTrip_14 : decode cX5_isTrip 14 = .ok (.baload, 1) := by decide +kernel
theorem dX5_isTrip_15 : decode cX5_isTrip 15 = .ok (.ifCond .eq 7, 3) := by decide +kernel
theorem dX5_isTrip_18 : decode cX5_isTrip 18 = .ok (.iconst 1, 1) := by decide +kernel
theorem dX5_isTrip_19 : decode cX5_isTrip 19 = .ok (.goto 4, 3) := by decide +kernel
theorem dX5_isTrip_22 : decode cX5_isTrip 22 = .ok (.iconst 0, 1) := by decide +kernel
theorem dX5_isTrip_23 : decode cX5_isTrip 23 = .ok (.ireturn, 1) := by decide +kernel
set_option maxRecDepth 20000 in
theorem ggX5_trip_X5_isIn : GoodIn wsX5_trip wsX5_isIn := goodIn_r _ [8] (by decide +kernel) (by decide +kernel)
set_option maxRecDepth 20000 in
theorem gX5_trip_X5_isIn : GoodIn wsX5_trip (va_wsS RX5 88 yX5_isIn wsX5_isIn) := goodIn_app (goodIn_of _ (by decide +kernel)) ggX5_trip_X5_isIn
theorem dX5_trip_0 : decode cX5_trip 0 = .ok (.iload_n 1, 1) := by decide +kernel
theorem dX5_trip_1 : decode cX5_trip 1 = .ok (.bipush 8, 2) := by decide +kernel
theorem dX5_trip_3 : decode cX5_trip 3 = .ok (.invokestatic 88, 3) := by decide +kernel
theorem dX5_trip_6 : decode cX5_trip 6 = .ok (.ifCond .eq 14, 3) := by decide +kernel
theorem dX5_trip_9 : decode cX5_trip 9 = .ok (.iload_n 2, 1) := by decide +kernel
theorem dX5_trip_10 : decode cX5_trip 10 = .ok (.iconst 1, 1) := by decide +kernel
theorem dX5_trip_11 : decode cX5_trip 11 = .ok (.if_icmp .lt 9, 3) := by decide +kernel
theorem dX5_trip_14 : decode cX5_trip 14 = .ok (.iload_n 2, 1) := by decide +kernel
theorem dX5_trip_15 : decode cX5_trip 15 = .ok (.bipush 6, 2) := by decide +kernel
theorem dX5_trip_17 : decode cX5_trip 17 = .ok (.if_icmp .le 6, 3) := by decide +kernel
theorem dX5_trip_20 : decode cX5_trip 20 = .ok (.bipush (-4), 2) := by decide +kernel
theorem dX5_trip_22 : decode cX5_trip 22 = .ok (.ireturn, 1) := by decide +kernel
theorem dX5_trip_23 : decode cX5_trip 23 = .ok (.aload_n 0, 1) := by decide +kernel
theorem dX5_trip_24 : decode cX5_trip 24 = .ok (.getfield 71, 3) := by decide +kernel
theorem dX5_trip_27 : decode cX5_trip 27 = .ok (.iload_n 1, 1) := by decide +kernel
theorem dX5_trip_28 : decode cX5_trip 28 = .ok (.iconst 1, 1) := by decide +kernel
theorem dX5_trip_29 : decode cX5_trip 29 = .ok (.bastore, 1) := by decide +kernel
theorem dX5_trip_30 : decode cX5_trip 30 = .ok (.aload_n 0, 1) := by decide +kernel
theorem dX5_trip_31 : decode cX5_trip 31 = .ok (.getfield 62, 3) := by decide +kernel
theorem dX5_trip_34 : decode cX5_trip 34 = .ok (.iload_n 1, 1) := by decide +kernel
theorem dX5_trip_35 : decode cX5_trip 35 = .ok (.iload_n 2, 1) := by decide +kernel
theorem dX5_trip_36 : decode cX5_trip 36 = .ok (.iastore, 1) := by decide +kernel
theorem dX5_trip_37 : decode cX5_trip 37 = .ok (.aload_n 0, 1) := by decide +kernel
theorem dX5_trip_38 : decode cX5_trip 38 = .ok (.getfield 65, 3) := by decide +kernel
theorem dX5_trip_41 : decode cX5_trip 41 = .ok (.iload_n 1, 1) := by decide +kernel
theorem dX5_trip_42 : decode cX5_trip 42 = .ok (.iconst 0, 1) := by decide +kernel
theorem dX5_trip_43 : decode cX5_trip 43 = .ok (.iastore, 1) := by decide +kernel
theorem dX5_trip_44 : decode cX5_trip 44 = .ok (.aload_n 0, 1) := by decide +kernel
theorem dX5_trip_45 : decode cX5_trip 45 = .ok (.getfield 74, 3) := by decide +kernel
theorem dX5_trip_48 : decode cX5_trip 48 = .ok (.iload_n 1, 1) := by decide +kernel
theorem dX5_trip_49 : decode cX5_trip 49 = .ok (.iconst 0, 1) := by decide +kernel
theorem dX5_trip_50 : decode cX5_trip 50 = .ok (.bastore, 1) := by decide +kernel
theorem dX5_trip_51 : decode cX5_trip 51 = .ok (.iconst 1, 1) := by decide +kernel
theorem dX5_trip_52 : decode cX5_trip 52 = .ok (.ireturn, 1) := by decide +kernel
set_option maxRecDepth 20000 in
theorem ggX5_part_X5_isTrip : GoodIn wsX5_part wsX5_isTrip := goodIn_r _ [7, 8, 9, 10, 6, 11, 17, 18, 19, 20, 21, 22, 23, 24, 25, 26, 27, 28, 29, 30, 31, 32, 33, 34, 35, 36, 37, 38, 39, 40, 41, 42, 43, 44, 45, 46] (by decide +kernel) (by decide +kernel)
set_option maxRecDepth 20000 in
theorem gX5_part_X5_isTrip : GoodIn wsX5_part (wsV RX5 152 RX5 yX5_isTrip wsX5_isTrip) := goodIn_app (goodIn_of _ (by decide +kernel)) ggX5_part_X5_isTrip
set_option maxRecDepth 20000 in
theorem ggX5_part_X5_isCondition : GoodIn wsX5_part wsX5_isCondition := goodIn_r _ [15, 16, 9, 10, 6, 11, 17, 18, 19, 20, 21, 22, 23, 24, 25, 26, 27, 28, 29, 30, 31, 32, 33, 34, 35, 36, 37, 38, 39, 40, 41, 42, 43, 44, 45, 46] (by decide +kernel) (by decide +kernel)
set_option maxRecDepth 20000 in
theorem gX5_part_X5_isCondition : GoodIn wsX5_part (wsV RX5 146 RX5 yX5_isCondition wsX5_isCondition) := goodIn_app (goodIn_of _ (by decide +kernel)) ggX5_part_X5_isCondition
theorem dX5_part_0 : decode cX5_part 0 = .ok (.aload_n 0, 1) := by decide +kernel
theorem dX5_part_1 : decode cX5_part 1 = .ok (.iload_n 1, 1) := by decide +kernel
theorem dX5_part_2 : decode cX5_part 2 = .ok (.invokevirtual 152, 3) := by decide +kernel
theorem dX5_part_5 : decode cX5_part 5 = .ok (.ifCond .eq 11, 3) := by decide +kernel
theorem dX5_part_8 : decode cX5_part 8 = .ok (.aload_n 0, 1) := by decide +kernel
theorem dX5_part_9 : decode cX5_part 9 = .ok (.iload_n 2, 1) := by decide +kernel
theorem dX5_part_10 : decode cX5_part 10 = .ok (.invokevirtual 146, 3) := by decide +kernel
theorem dX5_part_13 : decode cX5_part 13 = .ok (.ifCond .ne 6, 3) := by decide +kernel
theorem dX5_part_16 : decode cX5_part 16 = .ok (.bipush (-2), 2) := by decide +kernel
theorem dX5_part_18 : decode cX5_part 18 = .ok (.ireturn, 1) := by decide +kernel
theorem dX5_part_19 : decode cX5_part 19 = .ok (.aload_n 0, 1) := by decide +kernel
theorem dX5_part_20 : decode cX5_part 20 = .ok (.getfield 65, 3) := by decide +kernel
theorem dX5_part_23 : decode cX5_part 23 = .ok (.iload_n 1, 1) := by decide +kernel
theorem dX5_part_24 : decode cX5_part 24 = .ok (.iaload, 1) := by decide +kernel
theorem dX5_part_25 : decode cX5_part 25 = .ok (.bipush 6, 2) := by decide +kernel
theorem dX5_part_27 : decode cX5_part 27 = .ok (.if_icmp .ne 5, 3) := by decide +kernel
theorem dX5_part_30 : decode cX5_part 30 = .ok (.iconst (-1), 1) := by decide +kernel
theorem dX5_part_31 : decode cX5_part 31 = .ok (.ireturn, 1) := by decide +kernel
theorem dX5_part_32 : decode cX5_part 32 = .ok (.aload_n 0, 1) := by decide +kernel
theorem dX5_part_33 : decode cX5_part 33 = .ok (.getfield 68, 3) := by decide +kernel
theorem dX5_part_36 : decode cX5_part 36 = .ok (.bipush 6, 2) := by decide +kernel
theorem dX5_part_38 : decode cX5_part 38 = .ok (.iload_n 1, 1) := by decide +kernel
theorem dX5_part_39 : decode cX5_part 39 = .ok (.imul, 1) := by decide +kernel
theorem dX5_part_40 : decode cX5_part 40 = .ok (.aload_n 0, 1) := by decide +kernel
theorem dX5_part_41 : decode cX5_part 41 = .ok (.getfield 65, 3) := by decide +kernel
theorem dX5_part_44 : decode cX5_part 44 = .ok (.iload_n 1, 1) := by decide +kernel
theorem dX5_part_45 : decode cX5_part 45 = .ok (.iaload, 1) := by decide +kernel
theorem dX5_part_46 : decode cX5_part 46 = .ok (.iadd, 1) := by decide +kernel
theorem dX5_part_47 : decode cX5_part 47 = .ok (.iload_n 2, 1) := by decide +kernel
theorem dX5_part_48 : decode cX5_part 48 = .ok (.iastore, 1) := by decide +kernel
theorem dX5_part_49 : decode cX5_part 49 = .ok (.aload_n 0, 1) := by decide +kernel
theorem dX5_part_50 : decode cX5_part 50 = .ok (.getfield 65, 3) := by decide +kernel
theorem dX5_part_53 : decode cX5_part 53 = .ok (.iload_n 1, 1) := by decide +kernel
theorem dX5_part_54 : decode cX5_part 54 = .ok (.dup2, 1) := by decide +kernel
theorem dX5_part_55 : decode cX5_part 55 = .ok (.iaload, 1) := by decide +kernel
theorem dX5_part_56 : decode cX5_part 56 = .ok (.iconst 1, 1) := by decide +kernel
theorem dX5_part_57 : decode cX5_part 57 = .ok (.iadd, 1) := by decide +kernel
theorem dX5_part_58 : decode cX5_part 58 = .ok (.iastore, 1) := by decide +kernel
theorem dX5_part_59 : decode cX5_part 59 = .ok (.aload_n 0, 1) := by decide +kernel
theorem dX5_part_60 : decode cX5_part 60 = .ok (.getfield 65, 3) := by decide +kernel
theorem dX5_part_63 : decode cX5_part 63 = .ok (.iload_n 1, 1) := by decide +kernel
theorem dX5_part_64 : decode cX5_part 64 = .ok (.iaload, 1) := by decide +kernel
theorem dX5_part_65 : decode cX5_part 65 = .ok (.ireturn, 1) := by decide +kernel
set_option maxRecDepth 20000 in
theorem ggX5_now_X5_isHeld : GoodIn wsX5_now wsX5_isHeld := goodIn_r _ [7, 8, 9, 10, 11, 12, 13, 14, 15, 16, 6, 17, 18, 19, 20, 21, 22, 23, 24, 25, 26, 27, 28, 29, 30, 31, 32, 33, 34, 35, 36, 37, 38, 39, 40, 41, 42, 43, 44, 45, 46, 47, 48, 49, 50, 51, 52, 53, 54, 55, 56, 57, 58, 59, 60, 61, 62, 63, 64] (by decide +kernel) (by decide +kernel)
set_option maxRecDepth 20000 in
theorem gX5_now_X5_isHeld : GoodIn wsX5_now (wsV RX5 149 RX5 yX5_isHeld wsX5_isHeld) := goodIn_app (goodIn_of _ (by decide +kernel)) ggX5_now_X5_isHeld
theorem dX5_now_0 : decode cX5_now 0 = .ok (.iconst 0, 1) := by decide +kernel
theorem dX5_now_1 : decode cX5_now 1 = .ok (.istore_n 2, 1) := by decide +kernel
theorem dX5_now_2 : decode cX5_now 2 = .ok (.iconst 0, 1) := by decide +kernel
theorem dX5_now_3 : decode cX5_now 3 = .ok (.istore_n 3, 1) := by decide +kernel
theorem dX5_now_4 : decode cX5_now 4 = .ok (.iload_n 3, 1) := by decide +kernel
theorem dX5_now_5 : decode cX5_now 5 = .ok (.aload_n 0, 1) := by decide +kernel
theorem dX5_now_6 : decode cX5_now 6 = .ok (.getfield 65, 3) := by decide +kernel
theorem dX5_now_9 : decode cX5_now 9 = .ok (.iload_n 1, 1) := by decide +kernel
theorem dX5_now_10 : decode cX5_now 10 = .ok (.iaload, 1) := by decide +kernel
theorem dX5_now_11 : decode cX5_now 11 = .ok (.if_icmp .ge 35, 3) := by decide +kernel
theorem dX5_now_14 : decode cX5_now 14 = .ok (.iload_n 2, 1) := by decide +kernel
theorem dX5_now_15 : decode cX5_now 15 = .ok (.aload_n 0, 1) := by decide +kernel
theorem dX5_now_16 : decode cX5_now 16 = .ok (.aload_n 0, 1) := by decide +kernel
theorem dX5_now_17 : decode cX5_now 17 = .ok (.getfield 68, 3) := by decide +kernel
theorem dX5_now_20 : decode cX5_now 20 = .ok (.bipush 6, 2) := by decide +kernel
theorem dX5_now_22 : decode cX5_now 22 = .ok (.iload_n 1, 1) := by decide +kernel
theorem dX5_now_23 : decode cX5_now 23 = .ok (.imul, 1) := by decide +kernel
theorem dX5_now_24 : decode cX5_now 24 = .ok (.iload_n 3, 1) := by decide +kernel
theorem dX5_now_25 : decode cX5_now 25 = .ok (.iadd, 1) := by decide +kernel
theorem dX5_now_26 : decode cX5_now 26 = .ok (.iaload, 1) := by decide +kernel
theorem dX5_now_27 : decode cX5_now 27 = .ok (.invokevirtual 149, 3) := by decide +kernel
theorem dX5_now_30 : decode cX5_now 30 = .ok (.ifCond .eq 7, 3) := by decide +kernel
theorem dX5_now_33 : decode cX5_now 33 = .ok (.iconst 1, 1) := by decide +kernel
theorem dX5_now_34 : decode cX5_now 34 = .ok (.goto 4, 3) := by decide +kernel
theorem dX5_now_37 : decode cX5_now 37 = .ok (.iconst 0, 1) := by decide +kernel
theorem dX5_now_38 : decode cX5_now 38 = .ok (.iadd, 1) := by decide +kernel
theorem dX5_now_39 : decode cX5_now 39 = .ok (.istore_n 2, 1) := by decide +kernel
theorem dX5_now_40 : decode cX5_now 40 = .ok (.iinc 3 1, 3) := by decide +kernel
theorem dX5_now_43 : decode cX5_now 43 = .ok (.goto (-39), 3) := by decide +kernel
theorem dX5_now_46 : decode cX5_now 46 = .ok (.iload_n 2, 1) := by decide +kernel
theorem dX5_now_47 : decode cX5_now 47 = .ok (.ireturn, 1) := by decide +kernel
set_option maxRecDepth 20000 in
theorem ggX5_firstHeld_X5_isHeld : GoodIn wsX5_firstHeld wsX5_isHeld := goodIn_r _ [6, 7, 8, 9, 10, 11, 12, 13, 14, 15, 5, 16, 17, 18, 19, 20, 21, 22, 23, 24, 25, 26, 27, 28, 29, 30, 31, 32, 33, 34, 35, 36, 37, 38, 39, 40, 41, 42, 43, 44, 45, 46, 47, 48, 49, 50, 51, 52, 53, 54, 55, 56, 57, 58, 59, 60, 61, 62, 63] (by decide +kernel) (by decide +kernel)
set_option maxRecDepth 20000 in
theorem gX5_firstHeld_X5_isHeld : GoodIn wsX5_firstHeld (wsV RX5 149 RX5 yX5_isHeld wsX5_isHeld) := goodIn_app (goodIn_of _ (by decide +kernel)) ggX5_firstHeld_X5_isHeld
theorem dX5_firstHeld_0 : decode cX5_firstHeld 0 = .ok (.iconst 0, 1) := by decide +kernel
theorem dX5_firstHeld_1 : decode cX5_firstHeld 1 = .ok (.istore_n 2, 1) := by decide +kernel
theorem dX5_firstHeld_2 : decode cX5_firstHeld 2 = .ok (.aload_n 0, 1) := by decide +kernel
theorem dX5_firstHeld_3 : decode cX5_firstHeld 3 = .ok (.aload_n 0, 1) := by decide +kernel
theorem dX5_firstHeld_4 : decode cX5_firstHeld 4 = .ok (.getfield 68, 3) := by decide +kernel
theorem dX5_firstHeld_7 : decode cX5_firstHeld 7 = .ok (.bipush 6, 2) := by decide +kernel
theorem dX5_firstHeld_9 : decode cX5_firstHeld 9 = .ok (.iload_n 1, 1) := by decide +kernel
theorem dX5_firstHeld_10 : decode cX5_firstHeld 10 = .ok (.imul, 1) := by decide +kernel
theorem dX5_firstHeld_11 : decode cX5_firstHeld 11 = .ok (.iload_n 2, 1) := by decide +kernel
theorem dX5_firstHeld_12 : decode cX5_firstHeld 12 = .ok (.iadd, 1) := by decide +kernel
theorem dX5_firstHeld_13 : decode cX5_firstHeld 13 = .ok (.iaload, 1) := by decide +kernel
theorem dX5_firstHeld_14 : decode cX5_firstHeld 14 = .ok (.invokevirtual 149, 3) := by decide +kernel
theorem dX5_firstHeld_17 : decode cX5_firstHeld 17 = .ok (.ifCond .ne 9, 3) := by decide +kernel
theorem dX5_firstHeld_20 : decode cX5_firstHeld 20 = .ok (.iinc 2 1, 3) := by decide +kernel
theorem dX5_firstHeld_23 : decode cX5_firstHeld 23 = .ok (.goto (-21), 3) := by decide +kernel
theorem dX5_firstHeld_26 : decode cX5_firstHeld 26 = .ok (.aload_n 0, 1) := by decide +kernel
theorem dX5_firstHeld_27 : decode cX5_firstHeld 27 = .ok (.getfield 68, 3) := by decide +kernel
theorem dX5_firstHeld_30 : decode cX5_firstHeld 30 = .ok (.bipush 6, 2) := by decide +kernel
theorem dX5_firstHeld_32 : decode cX5_firstHeld 32 = .ok (.iload_n 1, 1) := by decide +kernel
theorem dX5_firstHeld_33 : decode cX5_firstHeld 33 = .ok (.imul, 1) := by decide +kernel
theorem dX5_firstHeld_34 : decode cX5_firstHeld 34 = .ok (.iload_n 2, 1) := by decide +kernel
theorem dX5_firstHeld_35 : decode cX5_firstHeld 35 = .ok (.iadd, 1) := by decide +kernel
theorem dX5_firstHeld_36 : decode cX5_firstHeld 36 = .ok (.iaload, 1) := by decide +kernel
theorem dX5_firstHeld_37 : decode cX5_firstHeld 37 = .ok (.ireturn, 1) := by decide +kernel
set_option maxRecDepth 20000 in
theorem ggX5_tells_X5_firstHeld : GoodIn wsX5_tells wsX5_firstHeld := goodIn_r _ [10, 11, 12, 13, 14, 9, 15, 16, 17, 18, 19, 20, 21, 22, 23, 24, 25, 26, 27, 28, 29, 30, 31, 32, 33, 34, 35, 36, 37, 38, 39, 40, 41, 42, 43, 44, 45, 46, 47, 48, 49, 50, 51, 52, 53, 54, 55, 56, 57, 58, 59, 60, 61, 62, 63, 64, 65, 66, 67, 68, 69, 70, 71, 72] (by decide +kernel) (by decide +kernel)
set_option maxRecDepth 20000 in
theorem gX5_tells_X5_firstHeld : GoodIn wsX5_tells (wsV RX5 158 RX5 yX5_firstHeld wsX5_firstHeld) := goodIn_app (goodIn_of _ (by decide +kernel)) ggX5_tells_X5_firstHeld
theorem dX5_tells_0 : decode cX5_tells 0 = .ok (.bipush 19, 2) := by decide +kernel
theorem dX5_tells_2 : decode cX5_tells 2 = .ok (.istore_n 2, 1) := by decide +kernel
theorem dX5_tells_3 : decode cX5_tells 3 = .ok (.iload_n 2, 1) := by decide +kernel
theorem dX5_tells_4 : decode cX5_tells 4 = .ok (.ifCond .le 51, 3) := by decide +kernel
theorem dX5_tells_7 : decode cX5_tells 7 = .ok (.aload_n 0, 1) := by decide +kernel
theorem dX5_tells_8 : decode cX5_tells 8 = .ok (.getfield 77, 3) := by decide +kernel
theorem dX5_tells_11 : decode cX5_tells 11 = .ok (.iload_n 2, 1) := by decide +kernel
theorem dX5_tells_12 : decode cX5_tells 12 = .ok (.aload_n 0, 1) := by decide +kernel
theorem dX5_tells_13 : decode cX5_tells 13 = .ok (.getfield 77, 3) := by decide +kernel
theorem dX5_tells_16 : decode cX5_tells 16 = .ok (.iload_n 2, 1) := by decide +kernel
theorem dX5_tells_17 : decode cX5_tells 17 = .ok (.iconst 1, 1) := by decide +kernel
theorem dX5_tells_18 : decode cX5_tells 18 = .ok (.isub, 1) := by decide +kernel
theorem dX5_tells_19 : decode cX5_tells 19 = .ok (.iaload, 1) := by decide +kernel
theorem dX5_tells_20 : decode cX5_tells 20 = .ok (.iastore, 1) := by decide +kernel
theorem dX5_tells_21 : decode cX5_tells 21 = .ok (.aload_n 0, 1) := by decide +kernel
theorem dX5_tells_22 : decode cX5_tells 22 = .ok (.getfield 80, 3) := by decide +kernel
theorem dX5_tells_25 : decode cX5_tells 25 = .ok (.iload_n 2, 1) := by decide +kernel
theorem dX5_tells_26 : decode cX5_tells 26 = .ok (.aload_n 0, 1) := by decide +kernel
theorem dX5_tells_27 : decode cX5_tells 27 = .ok (.getfield 80, 3) := by decide +kernel
theorem dX5_tells_30 : decode cX5_tells 30 = .ok (.iload_n 2, 1) := by decide +kernel
theorem dX5_tells_31 : decode cX5_tells 31 = .ok (.iconst 1, 1) := by decide +kernel
theorem dX5_tells_32 : decode cX5_tells 32 = .ok (.isub, 1) := by decide +kernel
theorem dX5_tells_33 : decode cX5_tells 33 = .ok (.iaload, 1) := by decide +kernel
theorem dX5_tells_34 : decode cX5_tells 34 = .ok (.iastore, 1) := by decide +kernel
theorem dX5_tells_35 : decode cX5_tells 35 = .ok (.aload_n 0, 1) := by decide +kernel
theorem dX5_tells_36 : decode cX5_tells 36 = .ok (.getfield 83, 3) := by decide +kernel
theorem dX5_tells_39 : decode cX5_tells 39 = .ok (.iload_n 2, 1) := by decide +kernel
theorem dX5_tells_40 : decode cX5_tells 40 = .ok (.aload_n 0, 1) := by decide +kernel
theorem dX5_tells_41 : decode cX5_tells 41 = .ok (.getfield 83, 3) := by decide +kernel
theorem dX5_tells_44 : decode cX5_tells 44 = .ok (.iload_n 2, 1) := by decide +kernel
theorem dX5_tells_45 : decode cX5_tells 45 = .ok (.iconst 1, 1) := by decide +kernel
theorem dX5_tells_46 : decode cX5_tells 46 = .ok (.isub, 1) := by decide +kernel
theorem dX5_tells_47 : decode cX5_tells 47 = .ok (.iaload, 1) := by decide +kernel
theorem dX5_tells_48 : decode cX5_tells 48 = .ok (.iastore, 1) := by decide +kernel
theorem dX5_tells_49 : decode cX5_tells 49 = .ok (.iinc 2 (-1), 3) := by decide +kernel
theorem dX5_tells_52 : decode cX5_tells 52 = .ok (.goto (-49), 3) := by decide +kernel
theorem dX5_tells_55 : decode cX5_tells 55 = .ok (.aload_n 0, 1) := by decide +kernel
theorem dX5_tells_56 : decode cX5_tells 56 = .ok (.getfield 77, 3) := by decide +kernel
theorem dX5_tells_59 : decode cX5_tells 59 = .ok (.iconst 0, 1) := by decide +kernel
theorem dX5_tells_60 : decode cX5_tells 60 = .ok (.iload_n 1, 1) := by decide +kernel
theorem dX5_tells_61 : decode cX5_tells 61 = .ok (.iastore, 1) := by decide +kernel
theorem dX5_tells_62 : decode cX5_tells 62 = .ok (.aload_n 0, 1) := by decide +kernel
theorem dX5_tells_63 : decode cX5_tells 63 = .ok (.getfield 80, 3) := by decide +kernel
theorem dX5_tells_66 : decode cX5_tells 66 = .ok (.iconst 0, 1) := by decide +kernel
theorem dX5_tells_67 : decode cX5_tells 67 = .ok (.aload_n 0, 1) := by decide +kernel
theorem dX5_tells_68 : decode cX5_tells 68 = .ok (.getfield 155, 3) := by decide +kernel
theorem dX5_tells_71 : decode cX5_tells 71 = .ok (.iastore, 1) := by decide +kernel
theorem dX5_tells_72 : decode cX5_tells 72 = .ok (.aload_n 0, 1) := by decide +kernel
theorem dX5_tells_73 : decode cX5_tells 73 = .ok (.getfield 83, 3) := by decide +kernel
theorem dX5_tells_76 : decode cX5_tells 76 = .ok (.iconst 0, 1) := by decide +kernel
theorem dX5_tells_77 : decode cX5_tells 77 = .ok (.aload_n 0, 1) := by decide +kernel
theorem dX5_tells_78 : decode cX5_tells 78 = .ok (.iload_n 1, 1) := by decide +kernel
theorem dX5_tells_79 : decode cX5_tells 79 = .ok (.invokevirtual 158, 3) := by decide +kernel
theorem dX5_tells_82 : decode cX5_tells 82 = .ok (.iastore, 1) := by decide +kernel
theorem dX5_tells_83 : decode cX5_tells 83 = .ok (.aload_n 0, 1) := by decide +kernel
theorem dX5_tells_84 : decode cX5_tells 84 = .ok (.dup, 1) := by decide +kernel
theorem dX5_tells_85 : decode cX5_tells 85 = .ok (.getfield 162, 3) := by decide +kernel
theorem dX5_tells_88 : decode cX5_tells 88 = .ok (.iconst 1, 1) := by decide +kernel
theorem dX5_tells_89 : decode cX5_tells 89 = .ok (.iadd, 1) := by decide +kernel
theorem dX5_tells_90 : decode cX5_tells 90 = .ok (.putfield 162, 3) := by decide +kernel
theorem dX5_tells_93 : decode cX5_tells 93 = .ok (.return_, 1) := by decide +kernel
set_option maxRecDepth 20000 in
theorem ggX5_scan_X5_now : GoodIn wsX5_scan wsX5_now := goodIn_r _ [13, 14, 15, 16, 17, 18, 12, 19, 20, 21, 22, 4, 23, 24, 25, 26, 27, 28, 5, 29, 30, 31, 32, 33, 34, 35, 36, 37, 38, 39, 40, 41, 42, 43, 44, 57, 58, 59, 60, 61, 62, 63, 64, 65, 66, 67, 68, 69, 70, 71, 72, 73, 74, 75, 76, 77, 78, 79, 80, 81, 82, 83, 84, 85, 86] (by decide +kernel) (by decide +kernel)
set_option maxRecDepth 20000 in
theorem gX5_scan_X5_now : GoodIn wsX5_scan (wsV RX5 165 RX5 yX5_now wsX5_now) := goodIn_app (goodIn_of _ (by decide +kernel)) ggX5_scan_X5_now
set_option maxRecDepth 20000 in
theorem ggX5_scan_X5_tells : GoodIn wsX5_scan wsX5_tells := goodIn_r _ [48, 49, 50, 51, 1, 52, 53, 54, 55, 12, 56, 15, 16, 17, 18, 19, 20, 21, 22, 4, 23, 24, 25, 26, 27, 28, 5, 29, 30, 31, 32, 33, 34, 35, 36, 37, 38, 39, 40, 41, 42, 43, 44, 57, 58, 59, 60, 61, 62, 63, 64, 65, 66, 67, 68, 69, 70, 71, 72, 73, 74, 75, 76, 77, 78, 79, 80, 81, 82, 83, 84, 85, 86] (by decide +kernel) (by decide +kernel)
set_option maxRecDepth 20000 in
theorem gX5_scan_X5_tells : GoodIn wsX5_scan (wsV RX5 168 RX5 yX5_tells wsX5_tells) := goodIn_app (goodIn_of _ (by decide +kernel)) ggX5_scan_X5_tells
theorem dX5_scan_0 : decode cX5_scan 0 = .ok (.aload_n 0, 1) := by decide +kernel
theorem dX5_scan_1 : decode cX5_scan 1 = .ok (.dup, 1) := by decide +kernel
theorem dX5_scan_2 : decode cX5_scan 2 = .ok (.getfield 155, 3) := by decide +kernel
theorem dX5_scan_5 : decode cX5_scan 5 = .ok (.iconst 1, 1) := by decide +kernel
theorem dX5_scan_6 : decode cX5_scan 6 = .ok (.iadd, 1) := by decide +kernel
theorem dX5_scan_7 : decode cX5_scan 7 = .ok (.putfield 155, 3) := by decide +kernel
theorem dX5_scan_10 : decode cX5_scan 10 = .ok (.iconst 0, 1) := by decide +kernel
theorem dX5_scan_11 : decode cX5_scan 11 = .ok (.istore_n 1, 1) := by decide +kernel
theorem dX5_scan_12 : decode cX5_scan 12 = .ok (.iload_n 1, 1) := by decide +kernel
theorem dX5_scan_13 : decode cX5_scan 13 = .ok (.bipush 16, 2) := by decide +kernel
theorem dX5_scan_15 : decode cX5_scan 15 = .ok (.if_icmp .ge 47, 3) := by decide +kernel
theorem dX5_scan_18 : decode cX5_scan 18 = .ok (.aload_n 0, 1) := by decide +kernel
theorem dX5_scan_19 : decode cX5_scan 19 = .ok (.getfield 35, 3) := by decide +kernel
theorem dX5_scan_22 : decode cX5_scan 22 = .ok (.iload_n 1, 1) := by decide +kernel
theorem dX5_scan_23 : decode cX5_scan 23 = .ok (.aload_n 0, 1) := by decide +kernel
theorem dX5_scan_24 : decode cX5_scan 24 = .ok (.getfield 7, 3) := by decide +kernel
theorem dX5_scan_27 : decode cX5_scan 27 = .ok (.iload_n 1, 1) := by decide +kernel
theorem dX5_scan_28 : decode cX5_scan 28 = .ok (.baload, 1) := by decide +kernel
theorem dX5_scan_29 : decode cX5_scan 29 = .ok (.ifCond .eq 25, 3) := by decide +kernel
theorem dX5_scan_32 : decode cX5_scan 32 = .ok (.aload_n 0, 1) := by decide +kernel
theorem dX5_scan_33 : decode cX5_scan 33 = .ok (.getfield 16, 3) := by decide +kernel
theorem dX5_scan_36 : decode cX5_scan 36 = .ok (.iload_n 1, 1) := by decide +kernel
theorem dX5_scan_37 : decode cX5_scan 37 = .ok (.iaload, 1) := by decide +kernel
theorem dX5_scan_38 : decode cX5_scan 38 = .ok (.ldc 103, 2) := by decide +kernel
theorem dX5_scan_40 : decode cX5_scan 40 = .ok (.if_icmp .ne 14, 3) := by decide +kernel
theorem dX5_scan_43 : decode cX5_scan 43 = .ok (.aload_n 0, 1) := by decide +kernel
theorem dX5_scan_44 : decode cX5_scan 44 = .ok (.getfield 35, 3) := by decide +kernel
theorem dX5_scan_47 : decode cX5_scan 47 = .ok (.iload_n 1, 1) := by decide +kernel
theorem dX5_scan_48 : decode cX5_scan 48 = .ok (.iaload, 1) := by decide +kernel
theorem dX5_scan_49 : decode cX5_scan 49 = .ok (.iconst 1, 1) := by decide +kernel
theorem dX5_scan_50 : decode cX5_scan 50 = .ok (.iadd, 1) := by decide +kernel
theorem dX5_scan_51 : decode cX5_scan 51 = .ok (.goto 4, 3) := by decide +kernel
theorem dX5_scan_54 : decode cX5_scan 54 = .ok (.iconst 0, 1) := by decide +kernel
theorem dX5_scan_55 : decode cX5_scan 55 = .ok (.iastore, 1) := by decide +kernel
theorem dX5_scan_56 : decode cX5_scan 56 = .ok (.iinc 1 1, 3) := by decide +kernel
theorem dX5_scan_59 : decode cX5_scan 59 = .ok (.goto (-47), 3) := by decide +kernel
theorem dX5_scan_62 : decode cX5_scan 62 = .ok (.iconst 0, 1) := by decide +kernel
theorem dX5_scan_63 : decode cX5_scan 63 = .ok (.istore_n 1, 1) := by decide +kernel
theorem dX5_scan_64 : decode cX5_scan 64 = .ok (.iconst 0, 1) := by decide +kernel
theorem dX5_scan_65 : decode cX5_scan 65 = .ok (.istore_n 2, 1) := by decide +kernel
theorem dX5_scan_66 : decode cX5_scan 66 = .ok (.iload_n 2, 1) := by decide +kernel
theorem dX5_scan_67 : decode cX5_scan 67 = .ok (.bipush 8, 2) := by decide +kernel
theorem dX5_scan_69 : decode cX5_scan 69 = .ok (.if_icmp .ge 59, 3) := by decide +kernel
theorem dX5_scan_72 : decode cX5_scan 72 = .ok (.aload_n 0, 1) := by decide +kernel
theorem dX5_scan_73 : decode cX5_scan 73 = .ok (.getfield 71, 3) := by decide +kernel
theorem dX5_scan_76 : decode cX5_scan 76 = .ok (.iload_n 2, 1) := by decide +kernel
theorem dX5_scan_77 : decode cX5_scan 77 = .ok (.baload, 1) := by decide +kernel
theorem dX5_scan_78 : decode cX5_scan 78 = .ok (.ifCond .eq 44, 3) := by decide +kernel
theorem dX5_scan_81 : decode cX5_scan 81 = .ok (.aload_n 0, 1) := by decide +kernel
theorem dX5_scan_82 : decode cX5_scan 82 = .ok (.getfield 74, 3) := by decide +kernel
theorem dX5_scan_85 : decode cX5_scan 85 = .ok (.iload_n 2, 1) := by decide +kernel
theorem dX5_scan_86 : decode cX5_scan 86 = .ok (.baload, 1) := by decide +kernel
theorem dX5_scan_87 : decode cX5_scan 87 = .ok (.ifCond .ne 35, 3) := by decide +kernel
theorem dX5_scan_90 : decode cX5_scan 90 = .ok (.aload_n 0, 1) := by decide +kernel
theorem dX5_scan_91 : decode cX5_scan 91 = .ok (.iload_n 2, 1) := by decide +kernel
theorem dX5_scan_92 : decode cX5_scan 92 = .ok (.invokevirtual 165, 3) := by decide +kernel
theorem dX5_scan_95 : decode cX5_scan 95 = .ok (.aload_n 0, 1) := by decide +kernel
theorem dX5_scan_96 : decode cX5_scan 96 = .ok (.getfield 62, 3) := by decide +kernel
theorem dX5_scan_99 : decode cX5_scan 99 = .ok (.iload_n 2, 1) := by decide +kernel
theorem dX5_scan_100 : decode cX5_scan 100 = .ok (.iaload, 1) := by decide +kernel
theorem dX5_scan_101 : decode cX5_scan 101 = .ok (.if_icmp .ge 6, 3) := by decide +kernel
theorem dX5_scan_104 : decode cX5_scan 104 = .ok (.goto 18, 3) := by decide +kernel
theorem dX5_scan_107 : decode cX5_scan 107 = .ok (.aload_n 0, 1) := by decide +kernel
theorem dX5_scan_108 : decode cX5_scan 108 = .ok (.getfield 74, 3) := by decide +kernel
theorem dX5_scan_111 : decode cX5_scan 111 = .ok (.iload_n 2, 1) := by decide +kernel
theorem dX5_scan_112 : decode cX5_scan 112 = .ok (.iconst 1, 1) := by decide +kernel
theorem dX5_scan_113 : decode cX5_scan 113 = .ok (.bastore, 1) := by decide +kernel
theorem dX5_scan_114 : decode cX5_scan 114 = .ok (.aload_n 0, 1) := by decide +kernel
theorem dX5_scan_115 : decode cX5_scan 115 = .ok (.iload_n 2, 1) := by decide +kernel
theorem dX5_scan_116 : decode cX5_scan 116 = .ok (.invokevirtual 168, 3) := by decide +kernel
theorem dX5_scan_119 : decode cX5_scan 119 = .ok (.iinc 1 1, 3) := by decide +kernel
theorem dX5_scan_122 : decode cX5_scan 122 = .ok (.iinc 2 1, 3) := by decide +kernel
theorem dX5_scan_125 : decode cX5_scan 125 = .ok (.goto (-59), 3) := by decide +kernel
theorem dX5_scan_128 : decode cX5_scan 128 = .ok (.iload_n 1, 1) := by decide +kernel
theorem dX5_scan_129 : decode cX5_scan 129 = .ok (.ireturn, 1) := by decide +kernel
set_option maxRecDepth 20000 in
theorem ggX5_reset_X5_isTrip : GoodIn wsX5_reset wsX5_isTrip := goodIn_r _ [7, 8, 9, 10, 6, 11, 49, 50, 51, 52, 53, 54, 55, 56, 57, 58, 59, 60, 61, 62, 63, 64, 65, 66, 67, 68, 69, 70, 71, 72, 73, 74, 75, 76, 77, 78] (by decide +kernel) (by decide +kernel)
set_option maxRecDepth 20000 in
theorem gX5_reset_X5_isTrip : GoodIn wsX5_reset (wsV RX5 152 RX5 yX5_isTrip wsX5_isTrip) := goodIn_app (goodIn_of _ (by decide +kernel)) ggX5_reset_X5_isTrip
set_option maxRecDepth 20000 in
theorem ggX5_reset_X5_now : GoodIn wsX5_reset wsX5_now := goodIn_r _ [15, 16, 17, 18, 19, 20, 6, 21, 22, 23, 24, 25, 26, 27, 28, 29, 30, 31, 32, 33, 34, 35, 36, 37, 38, 39, 40, 41, 42, 43, 44, 45, 46, 47, 48, 49, 50, 51, 52, 53, 54, 55, 56, 57, 58, 59, 60, 61, 62, 63, 64, 65, 66, 67, 68, 69, 70, 71, 72, 73, 74, 75, 76, 77, 78] (by decide +kernel) (by decide +kernel)
set_option maxRecDepth 20000 in
theorem gX5_reset_X5_now : GoodIn wsX5_reset (wsV RX5 165 RX5 yX5_now wsX5_now) := goodIn_app (goodIn_of _ (by decide +kernel)) ggX5_reset_X5_now
theorem dX5_reset_0 : decode cX5_reset 0 = .ok (.aload_n 0, 1) := by decide +kernel
theorem dX5_reset_1 : decode cX5_reset 1 = .ok (.iload_n 1, 1) := by decide +kernel
theorem dX5_reset_2 : decode cX5_reset 2 = .ok (.invokevirtual 152, 3) := by decide +kernel
theorem dX5_reset_5 : decode cX5_reset 5 = .ok (.ifCond .ne 6, 3) := by decide +kernel
theorem dX5_reset_8 : decode cX5_reset 8 = .ok (.bipush (-2), 2) := by decide +kernel
theorem dX5_reset_10 : decode cX5_reset 10 = .ok (.ireturn, 1) := by decide +kernel
theorem dX5_reset_11 : decode cX5_reset 11 = .ok (.aload_n 0, 1) := by decide +kernel
theorem dX5_reset_12 : decode cX5_reset 12 = .ok (.iload_n 1, 1) := by decide +kernel
theorem dX5_reset_13 : decode cX5_reset 13 = .ok (.invokevirtual 165, 3) := by decide +kernel
theorem dX5_reset_16 : decode cX5_reset 16 = .ok (.aload_n 0, 1) := by decide +kernel
theorem dX5_reset_17 : decode cX5_reset 17 = .ok (.getfield 62, 3) := by decide +kernel
theorem dX5_reset_20 : decode cX5_reset 20 = .ok (.iload_n 1, 1) := by decide +kernel
theorem dX5_reset_21 : decode cX5_reset 21 = .ok (.iaload, 1) := by decide +kernel
theorem dX5_reset_22 : decode cX5_reset 22 = .ok (.if_icmp .lt 6, 3) := by decide +kernel
theorem dX5_reset_25 : decode cX5_reset 25 = .ok (.bipush (-5), 2) := by decide +kernel
theorem dX5_reset_27 : decode cX5_reset 27 = .ok (.ireturn, 1) := by decide +kernel
theorem dX5_reset_28 : decode cX5_reset 28 = .ok (.aload_n 0, 1) := by decide +kernel
theorem dX5_reset_29 : decode cX5_reset 29 = .ok (.getfield 74, 3) := by decide +kernel
theorem dX5_reset_32 : decode cX5_reset 32 = .ok (.iload_n 1, 1) := by decide +kernel
theorem dX5_reset_33 : decode cX5_reset 33 = .ok (.baload, 1) := by decide +kernel
theorem dX5_reset_34 : decode cX5_reset 34 = .ok (.ifCond .eq 7, 3) := by decide +kernel
theorem dX5_reset_37 : decode cX5_reset 37 = .ok (.iconst 1, 1) := by decide +kernel
theorem dX5_reset_38 : decode cX5_reset 38 = .ok (.goto 4, 3) := by decide +kernel
theorem dX5_reset_41 : decode cX5_reset 41 = .ok (.iconst 0, 1) := by decide +kernel
theorem dX5_reset_42 : decode cX5_reset 42 = .ok (.istore_n 2, 1) := by decide +kernel
theorem dX5_reset_43 : decode cX5_reset 43 = .ok (.aload_n 0, 1) := by decide +kernel
theorem dX5_reset_44 : decode cX5_reset 44 = .ok (.getfield 74, 3) := by decide +kernel
theorem dX5_reset_47 : decode cX5_reset 47 = .ok (.iload_n 1, 1) := by decide +kernel
theorem dX5_reset_48 : decode cX5_reset 48 = .ok (.iconst 0, 1) := by decide +kernel
theorem dX5_reset_49 : decode cX5_reset 49 = .ok (.bastore, 1) := by decide +kernel
theorem dX5_reset_50 : decode cX5_reset 50 = .ok (.iload_n 2, 1) := by decide +kernel
theorem dX5_reset_51 : decode cX5_reset 51 = .ok (.ireturn, 1) := by decide +kernel
set_option maxRecDepth 20000 in
theorem ggX5_votes_X5_isTrip : GoodIn wsX5_votes wsX5_isTrip := goodIn_r _ [5, 6, 7, 8, 4, 9, 47, 48, 49, 50, 51, 52, 53, 54, 55, 56, 57, 58, 59, 60, 61, 62, 63, 64, 65, 66, 67, 68, 69, 70, 71, 72, 73, 74, 75, 76] (by decide +kernel) (by decide +kernel)
set_option maxRecDepth 20000 in
theorem gX5_votes_X5_isTrip : GoodIn wsX5_votes (wsV RX5 152 RX5 yX5_isTrip wsX5_isTrip) := goodIn_app (goodIn_of _ (by decide +kernel)) ggX5_votes_X5_isTrip
set_option maxRecDepth 20000 in
theorem ggX5_votes_X5_now : GoodIn wsX5_votes wsX5_now := goodIn_r _ [13, 14, 15, 16, 17, 18, 4, 19, 20, 21, 22, 23, 24, 25, 26, 27, 28, 29, 30, 31, 32, 33, 34, 35, 36, 37, 38, 39, 40, 41, 42, 43, 44, 45, 46, 47, 48, 49, 50, 51, 52, 53, 54, 55, 56, 57, 58, 59, 60, 61, 62, 63, 64, 65, 66, 67, 68, 69, 70, 71, 72, 73, 74, 75, 76] (by decide +kernel) (by decide +kernel)
set_option maxRecDepth 20000 in
theorem gX5_votes_X5_now : GoodIn wsX5_votes (wsV RX5 165 RX5 yX5_now wsX5_now) := goodIn_app (goodIn_of _ (by decide +kernel)) ggX5_votes_X5_now
theorem dX5_votes_0 : decode cX5_votes 0 = .ok (.aload_n 0, 1) := by decide +kernel
theorem dX5_votes_1 : decode cX5_votes 1 = .ok (.iload_n 1, 1) := by decide +kernel
theorem dX5_votes_2 : decode cX5_votes 2 = .ok (.invokevirtual 152, 3) := by decide +kernel
theorem dX5_votes_5 : decode cX5_votes 5 = .ok (.ifCond .eq 11, 3) := by decide +kernel
theorem dX5_votes_8 : decode cX5_votes 8 = .ok (.aload_n 0, 1) := by decide +kernel
theorem dX5_votes_9 : decode cX5_votes 9 = .ok (.iload_n 1, 1) := by decide +kernel
theorem dX5_votes_10 : decode cX5_votes 10 = .ok (.invokevirtual 165, 3) := by decide +kernel
theorem dX5_votes_13 : decode cX5_votes 13 = .ok (.goto 5, 3) := by decide +kernel
theorem dX5_votes_16 : decode cX5_votes 16 = .ok (.bipush (-2), 2) := by decide +kernel
theorem dX5_votes_18 : decode cX5_votes 18 = .ok (.ireturn, 1) := by decide +kernel
set_option maxRecDepth 20000 in
theorem ggX5_tripped_X5_isTrip : GoodIn wsX5_tripped wsX5_isTrip := goodIn_r _ [6, 7, 8, 9, 5, 10, 11, 12, 13, 14, 15, 16, 17, 18, 19, 20, 21, 22, 23, 24, 25, 26, 27, 28, 29, 30, 31, 32, 33, 34, 35, 36, 37, 38, 39, 40] (by decide +kernel) (by decide +kernel)
set_option maxRecDepth 20000 in
theorem gX5_tripped_X5_isTrip : GoodIn wsX5_tripped (wsV RX5 152 RX5 yX5_isTrip wsX5_isTrip) := goodIn_app (goodIn_of _ (by decide +kernel)) ggX5_tripped_X5_isTrip
theorem dX5_tripped_0 : decode cX5_tripped 0 = .ok (.aload_n 0, 1) := by decide +kernel
theorem dX5_tripped_1 : decode cX5_tripped 1 = .ok (.iload_n 1, 1) := by decide +kernel
theorem dX5_tripped_2 : decode cX5_tripped 2 = .ok (.invokevirtual 152, 3) := by decide +kernel
theorem dX5_tripped_5 : decode cX5_tripped 5 = .ok (.ifCond .ne 8, 3) := by decide +kernel
theorem dX5_tripped_8 : decode cX5_tripped 8 = .ok (.bipush (-2), 2) := by decide +kernel
theorem dX5_tripped_10 : decode cX5_tripped 10 = .ok (.goto 17, 3) := by decide +kernel
theorem dX5_tripped_13 : decode cX5_tripped 13 = .ok (.aload_n 0, 1) := by decide +kernel
theorem dX5_tripped_14 : decode cX5_tripped 14 = .ok (.getfield 74, 3) := by decide +kernel
theorem dX5_tripped_17 : decode cX5_tripped 17 = .ok (.iload_n 1, 1) := by decide +kernel
theorem dX5_tripped_18 : decode cX5_tripped 18 = .ok (.baload, 1) := by decide +kernel
theorem dX5_tripped_19 : decode cX5_tripped 19 = .ok (.ifCond .eq 7, 3) := by decide +kernel
theorem dX5_tripped_22 : decode cX5_tripped 22 = .ok (.iconst 1, 1) := by decide +kernel
theorem dX5_tripped_23 : decode cX5_tripped 23 = .ok (.goto 4, 3) := by decide +kernel
theorem dX5_tripped_26 : decode cX5_tripped 26 = .ok (.iconst 0, 1) := by decide +kernel
theorem dX5_tripped_27 : decode cX5_tripped 27 = .ok (.ireturn, 1) := by decide +kernel
set_option maxRecDepth 20000 in
theorem ggX5_isAhead_X5_value : GoodIn wsX5_isAhead wsX5_value := goodIn_r _ [7, 8, 9, 10, 6, 11, 12, 13, 14, 15, 16, 17, 18, 19, 20, 21, 22, 23, 24, 25, 26, 27, 28, 29, 30, 31, 32, 33, 34, 35, 36, 37, 38, 39, 40, 41, 42, 43, 44, 45, 46] (by decide +kernel) (by decide +kernel)
set_option maxRecDepth 20000 in
theorem gX5_isAhead_X5_value : GoodIn wsX5_isAhead (wsV RX5 104 RX5 yX5_value wsX5_value) := goodIn_app (goodIn_of _ (by decide +kernel)) ggX5_isAhead_X5_value
theorem dX5_isAhead_0 : decode cX5_isAhead 0 = .ok (.aload_n 0, 1) := by decide +kernel
theorem dX5_isAhead_1 : decode cX5_isAhead 1 = .ok (.getfield 16, 3) := by decide +kernel
theorem dX5_isAhead_4 : decode cX5_isAhead 4 = .ok (.iload_n 1, 1) := by decide +kernel
theorem dX5_isAhead_5 : decode cX5_isAhead 5 = .ok (.iaload, 1) := by decide +kernel
theorem dX5_isAhead_6 : decode cX5_isAhead 6 = .ok (.ldc 103, 2) := by decide +kernel
theorem dX5_isAhead_8 : decode cX5_isAhead 8 = .ok (.if_icmp .eq 14, 3) := by decide +kernel
theorem dX5_isAhead_11 : decode cX5_isAhead 11 = .ok (.aload_n 0, 1) := by decide +kernel
theorem dX5_isAhead_12 : decode cX5_isAhead 12 = .ok (.getfield 16, 3) := by decide +kernel
theorem dX5_isAhead_15 : decode cX5_isAhead 15 = .ok (.iload_n 2, 1) := by decide +kernel
theorem dX5_isAhead_16 : decode cX5_isAhead 16 = .ok (.iaload, 1) := by decide +kernel
theorem dX5_isAhead_17 : decode cX5_isAhead 17 = .ok (.ldc 103, 2) := by decide +kernel
theorem dX5_isAhead_19 : decode cX5_isAhead 19 = .ok (.if_icmp .ne 40, 3) := by decide +kernel
theorem dX5_isAhead_22 : decode cX5_isAhead 22 = .ok (.aload_n 0, 1) := by decide +kernel
theorem dX5_isAhead_23 : decode cX5_isAhead 23 = .ok (.getfield 16, 3) := by decide +kernel
theorem dX5_isAhead_26 : decode cX5_isAhead 26 = .ok (.iload_n 1, 1) := by decide +kernel
theorem dX5_isAhead_27 : decode cX5_isAhead 27 = .ok (.iaload, 1) := by decide +kernel
theorem dX5_isAhead_28 : decode cX5_isAhead 28 = .ok (.ldc 103, 2) := by decide +kernel
theorem dX5_isAhead_30 : decode cX5_isAhead 30 = .ok (.if_icmp .ne 27, 3) := by decide +kernel
theorem dX5_isAhead_33 : decode cX5_isAhead 33 = .ok (.aload_n 0, 1) := by decide +kernel
theorem dX5_isAhead_34 : decode cX5_isAhead 34 = .ok (.getfield 16, 3) := by decide +kernel
theorem dX5_isAhead_37 : decode cX5_isAhead 37 = .ok (.iload_n 2, 1) := by decide +kernel
theorem dX5_isAhead_38 : decode cX5_isAhead 38 = .ok (.iaload, 1) := by decide +kernel
theorem dX5_isAhead_39 : decode cX5_isAhead 39 = .ok (.ldc 103, 2) := by decide +kernel
theorem dX5_isAhead_41 : decode cX5_isAhead 41 = .ok (.if_icmp .ne 12, 3) := by decide +kernel
theorem dX5_isAhead_44 : decode cX5_isAhead 44 = .ok (.iload_n 1, 1) := by decide +kernel
theorem dX5_isAhead_45 : decode cX5_isAhead 45 = .ok (.iload_n 2, 1) := by decide +kernel
theorem dX5_isAhead_46 : decode cX5_isAhead 46 = .ok (.if_icmp .ge 7, 3) := by decide +kernel
theorem dX5_isAhead_49 : decode cX5_isAhead 49 = .ok (.iconst 1, 1) := by decide +kernel
theorem dX5_isAhead_50 : decode cX5_isAhead 50 = .ok (.goto 8, 3) := by decide +kernel
theorem dX5_isAhead_53 : decode cX5_isAhead 53 = .ok (.iconst 0, 1) := by decide +kernel
theorem dX5_isAhead_54 : decode cX5_isAhead 54 = .ok (.goto 4, 3) := by decide +kernel
theorem dX5_isAhead_57 : decode cX5_isAhead 57 = .ok (.iconst 1, 1) := by decide +kernel
theorem dX5_isAhead_58 : decode cX5_isAhead 58 = .ok (.ireturn, 1) := by decide +kernel
theorem dX5_isAhead_59 : decode cX5_isAhead 59 = .ok (.aload_n 0, 1) := by decide +kernel
theorem dX5_isAhead_60 : decode cX5_isAhead 60 = .ok (.iload_n 1, 1) := by decide +kernel
theorem dX5_isAhead_61 : decode cX5_isAhead 61 = .ok (.aload_n 0, 1) := by decide +kernel
theorem dX5_isAhead_62 : decode cX5_isAhead 62 = .ok (.getfield 16, 3) := by decide +kernel
theorem dX5_isAhead_65 : decode cX5_isAhead 65 = .ok (.iload_n 1, 1) := by decide +kernel
theorem dX5_isAhead_66 : decode cX5_isAhead 66 = .ok (.iaload, 1) := by decide +kernel
theorem dX5_isAhead_67 : decode cX5_isAhead 67 = .ok (.invokevirtual 104, 3) := by decide +kernel
theorem dX5_isAhead_70 : decode cX5_isAhead 70 = .ok (.dstore_n 3, 1) := by decide +kernel
theorem dX5_isAhead_71 : decode cX5_isAhead 71 = .ok (.aload_n 0, 1) := by decide +kernel
theorem dX5_isAhead_72 : decode cX5_isAhead 72 = .ok (.iload_n 2, 1) := by decide +kernel
theorem dX5_isAhead_73 : decode cX5_isAhead 73 = .ok (.aload_n 0, 1) := by decide +kernel
theorem dX5_isAhead_74 : decode cX5_isAhead 74 = .ok (.getfield 16, 3) := by decide +kernel
theorem dX5_isAhead_77 : decode cX5_isAhead 77 = .ok (.iload_n 2, 1) := by decide +kernel
theorem dX5_isAhead_78 : decode cX5_isAhead 78 = .ok (.iaload, 1) := by decide +kernel
theorem dX5_isAhead_79 : decode cX5_isAhead 79 = .ok (.invokevirtual 104, 3) := by decide +kernel
theorem dX5_isAhead_82 : decode cX5_isAhead 82 = .ok (.dstore 5, 2) := by decide +kernel
theorem dX5_isAhead_84 : decode cX5_isAhead 84 = .ok (.dload_n 3, 1) := by decide +kernel
theorem dX5_isAhead_85 : decode cX5_isAhead 85 = .ok (.dload 5, 2) := by decide +kernel
theorem dX5_isAhead_87 : decode cX5_isAhead 87 = .ok (.dcmp .l, 1) := by decide +kernel
theorem dX5_isAhead_88 : decode cX5_isAhead 88 = .ok (.ifCond .gt 15, 3) := by decide +kernel
theorem dX5_isAhead_91 : decode cX5_isAhead 91 = .ok (.dload_n 3, 1) := by decide +kernel
theorem dX5_isAhead_92 : decode cX5_isAhead 92 = .ok (.dload 5, 2) := by decide +kernel
theorem dX5_isAhead_94 : decode cX5_isAhead 94 = .ok (.dcmp .l, 1) := by decide +kernel
theorem dX5_isAhead_95 : decode cX5_isAhead 95 = .ok (.ifCond .ne 12, 3) := by decide +kernel
theorem dX5_isAhead_98 : decode cX5_isAhead 98 = .ok (.iload_n 1, 1) := by decide +kernel
theorem dX5_isAhead_99 : decode cX5_isAhead 99 = .ok (.iload_n 2, 1) := by decide +kernel
theorem dX5_isAhead_100 : decode cX5_isAhead 100 = .ok (.if_icmp .ge 7, 3) := by decide +kernel
theorem dX5_isAhead_103 : decode cX5_isAhead 103 = .ok (.iconst 1, 1) := by decide +kernel
theorem dX5_isAhead_104 : decode cX5_isAhead 104 = .ok (.goto 4, 3) := by decide +kernel
theorem dX5_isAhead_107 : decode cX5_isAhead 107 = .ok (.iconst 0, 1) := by decide +kernel
theorem dX5_isAhead_108 : decode cX5_isAhead 108 = .ok (.ireturn, 1) := by decide +kernel
set_option maxRecDepth 20000 in
theorem ggX5_order_X5_isAhead : GoodIn wsX5_order wsX5_isAhead := goodIn_r _ [6, 7, 8, 9, 10, 11, 5, 12, 13, 14, 15, 16, 17, 18, 19, 20, 21, 22, 23, 24, 25, 26, 27, 28, 29, 30, 31, 32, 33, 34, 35, 36, 37, 38, 39, 40, 41, 42, 43, 44, 45, 46, 47, 48, 49, 50, 51] (by decide +kernel) (by decide +kernel)
set_option maxRecDepth 20000 in
theorem gX5_order_X5_isAhead : GoodIn wsX5_order (wsV RX5 171 RX5 yX5_isAhead wsX5_isAhead) := goodIn_app (goodIn_of _ (by decide +kernel)) ggX5_order_X5_isAhead
theorem dX5_order_0 : decode cX5_order 0 = .ok (.iconst 0, 1) := by decide +kernel
theorem dX5_order_1 : decode cX5_order 1 = .ok (.istore_n 2, 1) := by decide +kernel
theorem dX5_order_2 : decode cX5_order 2 = .ok (.iload_n 2, 1) := by decide +kernel
theorem dX5_order_3 : decode cX5_order 3 = .ok (.bipush 16, 2) := by decide +kernel
theorem dX5_order_5 : decode cX5_order 5 = .ok (.if_icmp .ge 86, 3) := by decide +kernel
theorem dX5_order_8 : decode cX5_order 8 = .ok (.iconst 0, 1) := by decide +kernel
theorem dX5_order_9 : decode cX5_order 9 = .ok (.istore_n 3, 1) := by decide +kernel
theorem dX5_order_10 : decode cX5_order 10 = .ok (.iconst 0, 1) := by decide +kernel
theorem dX5_order_11 : decode cX5_order 11 = .ok (.istore 4, 2) := by decide +kernel
theorem dX5_order_13 : decode cX5_order 13 = .ok (.iload 4, 2) := by decide +kernel
theorem dX5_order_15 : decode cX5_order 15 = .ok (.bipush 16, 2) := by decide +kernel
theorem dX5_order_17 : decode cX5_order 17 = .ok (.if_icmp .ge 52, 3) := by decide +kernel
theorem dX5_order_20 : decode cX5_order 20 = .ok (.aload_n 0, 1) := by decide +kernel
theorem dX5_order_21 : decode cX5_order 21 = .ok (.getfield 7, 3) := by decide +kernel
theorem dX5_order_24 : decode cX5_order 24 = .ok (.iload_n 2, 1) := by decide +kernel
theorem dX5_order_25 : decode cX5_order 25 = .ok (.baload, 1) := by decide +kernel
theorem dX5_order_26 : decode cX5_order 26 = .ok (.ifCond .eq 43, 3) := by decide +kernel
theorem dX5_order_29 : decode cX5_order 29 = .ok (.iload_n 3, 1) := by decide +kernel
theorem dX5_order_30 : decode cX5_order 30 = .ok (.iload 4, 2) := by decide +kernel
theorem dX5_order_32 : decode cX5_order 32 = .ok (.iload_n 2, 1) := by decide +kernel
theorem dX5_order_33 : decode cX5_order 33 = .ok (.if_icmp .eq 27, 3) := by decide +kernel
theorem dX5_order_36 : decode cX5_order 36 = .ok (.aload_n 0, 1) := by decide +kernel
theorem dX5_order_37 : decode cX5_order 37 = .ok (.getfield 7, 3) := by decide +kernel
theorem dX5_order_40 : decode cX5_order 40 = .ok (.iload 4, 2) := by decide +kernel
theorem dX5_order_42 : decode cX5_order 42 = .ok (.baload, 1) := by decide +kernel
theorem dX5_order_43 : decode cX5_order 43 = .ok (.ifCond .eq 17, 3) := by decide +kernel
theorem dX5_order_46 : decode cX5_order 46 = .ok (.aload_n 0, 1) := by decide +kernel
theorem dX5_order_47 : decode cX5_order 47 = .ok (.iload 4, 2) := by decide +kernel
theorem dX5_order_49 : decode cX5_order 49 = .ok (.iload_n 2, 1) := by decide +kernel
theorem dX5_order_50 : decode cX5_order 50 = .ok (.invokevirtual 171, 3) := by decide +kernel
theorem dX5_order_53 : decode cX5_order 53 = .ok (.ifCond .eq 7, 3) := by decide +kernel
theorem dX5_order_56 : decode cX5_order 56 = .ok (.iconst 1, 1) := by decide +kernel
theorem dX5_order_57 : decode cX5_order 57 = .ok (.goto 4, 3) := by decide +kernel
theorem dX5_order_60 : decode cX5_order 60 = .ok (.iconst 0, 1) := by decide +kernel
theorem dX5_order_61 : decode cX5_order 61 = .ok (.iadd, 1) := by decide +kernel
theorem dX5_order_62 : decode cX5_order 62 = .ok (.istore_n 3, 1) := by decide +kernel
theorem dX5_order_63 : decode cX5_order 63 = .ok (.iinc 4 1, 3) := by decide +kernel
theorem dX5_order_66 : decode cX5_order 66 = .ok (.goto (-53), 3) := by decide +kernel
theorem dX5_order_69 : decode cX5_order 69 = .ok (.aload_n 0, 1) := by decide +kernel
theorem dX5_order_70 : decode cX5_order 70 = .ok (.getfield 7, 3) := by decide +kernel
theorem dX5_order_73 : decode cX5_order 73 = .ok (.iload_n 2, 1) := by decide +kernel
theorem dX5_order_74 : decode cX5_order 74 = .ok (.baload, 1) := by decide +kernel
theorem dX5_order_75 : decode cX5_order 75 = .ok (.ifCond .eq 10, 3) := by decide +kernel
theorem dX5_order_78 : decode cX5_order 78 = .ok (.iload_n 3, 1) := by decide +kernel
theorem dX5_order_79 : decode cX5_order 79 = .ok (.iload_n 1, 1) := by decide +kernel
theorem dX5_order_80 : decode cX5_order 80 = .ok (.if_icmp .ne 5, 3) := by decide +kernel
theorem dX5_order_83 : decode cX5_order 83 = .ok (.iload_n 2, 1) := by decide +kernel
theorem dX5_order_84 : decode cX5_order 84 = .ok (.ireturn, 1) := by decide +kernel
theorem dX5_order_85 : decode cX5_order 85 = .ok (.iinc 2 1, 3) := by decide +kernel
theorem dX5_order_88 : decode cX5_order 88 = .ok (.goto (-86), 3) := by decide +kernel
theorem dX5_order_91 : decode cX5_order 91 = .ok (.iconst (-1), 1) := by decide +kernel
theorem dX5_order_92 : decode cX5_order 92 = .ok (.ireturn, 1) := by decide +kernel
set_option maxRecDepth 20000 in
theorem ggX5_extreme_X5_value : GoodIn wsX5_extreme wsX5_value := goodIn_r _ [8, 9, 10, 11, 7, 12, 13, 14, 15, 16, 17, 18, 19, 20, 21, 22, 23, 24, 25, 26, 27, 28, 29, 30, 31, 32, 33, 34, 35, 36, 37, 38, 39, 40, 41, 42, 43, 44, 45, 46, 47] (by decide +kernel) (by decide +kernel)
set_option maxRecDepth 20000 in
theorem gX5_extreme_X5_value : GoodIn wsX5_extreme (wsV RX5 104 RX5 yX5_value wsX5_value) := goodIn_app (goodIn_of _ (by decide +kernel)) ggX5_extreme_X5_value
theorem dX5_extreme_0 : decode cX5_extreme 0 = .ok (.iconst (-1), 1) := by decide +kernel
theorem dX5_extreme_1 : decode cX5_extreme 1 = .ok (.istore_n 2, 1) := by decide +kernel
theorem dX5_extreme_2 : decode cX5_extreme 2 = .ok (.iconst 0, 1) := by decide +kernel
theorem dX5_extreme_3 : decode cX5_extreme 3 = .ok (.istore_n 3, 1) := by decide +kernel
theorem dX5_extreme_4 : decode cX5_extreme 4 = .ok (.iload_n 3, 1) := by decide +kernel
theorem dX5_extreme_5 : decode cX5_extreme 5 = .ok (.bipush 16, 2) := by decide +kernel
theorem dX5_extreme_7 : decode cX5_extreme 7 = .ok (.if_icmp .ge 114, 3) := by decide +kernel
theorem dX5_extreme_10 : decode cX5_extreme 10 = .ok (.aload_n 0, 1) := by decide +kernel
theorem dX5_extreme_11 : decode cX5_extreme 11 = .ok (.getfield 7, 3) := by decide +kernel
theorem dX5_extreme_14 : decode cX5_extreme 14 = .ok (.iload_n 3, 1) := by decide +kernel
theorem dX5_extreme_15 : decode cX5_extreme 15 = .ok (.baload, 1) := by decide +kernel
theorem dX5_extreme_16 : decode cX5_extreme 16 = .ok (.ifCond .eq 99, 3) := by decide +kernel
theorem dX5_extreme_19 : decode cX5_extreme 19 = .ok (.aload_n 0, 1) := by decide +kernel
theorem dX5_extreme_20 : decode cX5_extreme 20 = .ok (.getfield 16, 3) := by decide +kernel
theorem dX5_extreme_23 : decode cX5_extreme 23 = .ok (.iload_n 3, 1) := by decide +kernel
theorem dX5_extreme_24 : decode cX5_extreme 24 = .ok (.iaload, 1) := by decide +kernel
theorem dX5_extreme_25 : decode cX5_extreme 25 = .ok (.ldc 103, 2) := by decide +kernel
theorem dX5_extreme_27 : decode cX5_extreme 27 = .ok (.if_icmp .ne 6, 3) := by decide +kernel
theorem dX5_extreme_30 : decode cX5_extreme 30 = .ok (.goto 85, 3) := by decide +kernel
theorem dX5_extreme_33 : decode cX5_extreme 33 = .ok (.iload_n 2, 1) := by decide +kernel
theorem dX5_extreme_34 : decode cX5_extreme 34 = .ok (.iconst (-1), 1) := by decide +kernel
theorem dX5_extreme_35 : decode cX5_extreme 35 = .ok (.if_icmp .eq 62, 3) := by decide +kernel
theorem dX5_extreme_38 : decode cX5_extreme 38 = .ok (.iload_n 1, 1) := by decide +kernel
theorem dX5_extreme_39 : decode cX5_extreme 39 = .ok (.ifCond .eq 32, 3) := by decide +kernel
theorem dX5_extreme_42 : decode cX5_extreme 42 = .ok (.aload_n 0, 1) := by decide +kernel
theorem dX5_extreme_43 : decode cX5_extreme 43 = .ok (.iload_n 3, 1) := by decide +kernel
theorem dX5_extreme_44 : decode cX5_extreme 44 = .ok (.aload_n 0, 1) := by decide +kernel
theorem dX5_extreme_45 : decode cX5_extreme 45 = .ok (.getfield 16, 3) := by decide +kernel
theorem dX5_extreme_48 : decode cX5_extreme 48 = .ok (.iload_n 3, 1) := by decide +kernel
theorem dX5_extreme_49 : decode cX5_extreme 49 = .ok (.iaload, 1) := by decide +kernel
theorem dX5_extreme_50 : decode cX5_extreme 50 = .ok (.invokevirtual 104, 3) := by decide +kernel
theorem dX5_extreme_53 : decode cX5_extreme 53 = .ok (.aload_n 0, 1) := by decide +kernel
theorem dX5_extreme_54 : decode cX5_extreme 54 = .ok (.iload_n 2, 1) := by decide +kernel
theorem dX5_extreme_55 : decode cX5_extreme 55 = .ok (.aload_n 0, 1) := by decide +kernel
theorem dX5_extreme_56 : decode cX5_extreme 56 = .ok (.getfield 16, 3) := by decide +kernel
theorem dX5_extreme_59 : decode cX5_extreme 59 = .ok (.iload_n 2, 1) := by decide +kernel
theorem dX5_extreme_60 : decode cX5_extreme 60 = .ok (.iaload, 1) := by decide +kernel
theorem dX5_extreme_61 : decode cX5_extreme 61 = .ok (.invokevirtual 104, 3) := by decide +kernel
theorem dX5_extreme_64 : decode cX5_extreme 64 = .ok (.dcmp .l, 1) := by decide +kernel
theorem dX5_extreme_65 : decode cX5_extreme 65 = .ok (.ifCond .le 36, 3) := by decide +kernel
theorem dX5_extreme_68 : decode cX5_extreme 68 = .ok (.goto 29, 3) := by decide +kernel
theorem dX5_extreme_71 : decode cX5_extreme 71 = .ok (.aload_n 0, 1) := by decide +kernel
theorem dX5_extreme_72 : decode cX5_extreme 72 = .ok (.iload_n 3, 1) := by decide +kernel
theorem dX5_extreme_73 : decode cX5_extreme 73 = .ok (.aload_n 0, 1) := by decide +kernel
theorem dX5_extreme_74 : decode cX5_extreme 74 = .ok (.getfield 16, 3) := by decide +kernel
theorem dX5_extreme_77 : decode cX5_extreme 77 = .ok (.iload_n 3, 1) := by decide +kernel
theorem dX5_extreme_78 : decode cX5_extreme 78 = .ok (.iaload, 1) := by decide +kernel
theorem dX5_extreme_79 : decode cX5_extreme 79 = .ok (.invokevirtual 104, 3) := by decide +kernel
theorem dX5_extreme_82 : decode cX5_extreme 82 = .ok (.aload_n 0, 1) := by decide +kernel
theorem dX5_extreme_83 : decode cX5_extreme 83 = .ok (.iload_n 2, 1) := by decide +kernel
theorem dX5_extreme_84 : decode cX5_extreme 84 = .ok (.aload_n 0, 1) := by decide +kernel
theorem dX5_extreme_85 : decode cX5_extreme 85 = .ok (.getfield 16, 3) := by decide +kernel
theorem dX5_extreme_88 : decode cX5_extreme 88 = .ok (.iload_n 2, 1) := by decide +kernel
theorem dX5_extreme_89 : decode cX5_extreme 89 = .ok (.iaload, 1) := by decide +kernel
theorem dX5_extreme_90 : decode cX5_extreme 90 = .ok (.invokevirtual 104, 3) := by decide +kernel
theorem dX5_extreme_93 : decode cX5_extreme 93 = .ok (.dcmp .g, 1) := by decide +kernel
theorem dX5_extreme_94 : decode cX5_extreme 94 = .ok (.ifCond .ge 7, 3) := by decide +kernel
theorem dX5_extreme_97 : decode cX5_extreme 97 = .ok (.iconst 1, 1) := by decide +kernel
theorem dX5_extreme_98 : decode cX5_extreme 98 = .ok (.goto 4, 3) := by decide +kernel
theorem dX5_extreme_101 : decode cX5_extreme 101 = .ok (.iconst 0, 1) := by decide +kernel
theorem dX5_extreme_102 : decode cX5_extreme 102 = .ok (.istore 4, 2) := by decide +kernel
theorem dX5_extreme_104 : decode cX5_extreme 104 = .ok (.iload 4, 2) := by decide +kernel
theorem dX5_extreme_106 : decode cX5_extreme 106 = .ok (.ifCond .eq 7, 3) := by decide +kernel
theorem dX5_extreme_109 : decode cX5_extreme 109 = .ok (.iload_n 3, 1) := by decide +kernel
theorem dX5_extreme_110 : decode cX5_extreme 110 = .ok (.goto 4, 3) := by decide +kernel
theorem dX5_extreme_113 : decode cX5_extreme 113 = .ok (.iload_n 2, 1) := by decide +kernel
theorem dX5_extreme_114 : decode cX5_extreme 114 = .ok (.istore_n 2, 1) := by decide +kernel
theorem dX5_extreme_115 : decode cX5_extreme 115 = .ok (.iinc 3 1, 3) := by decide +kernel
theorem dX5_extreme_118 : decode cX5_extreme 118 = .ok (.goto (-114), 3) := by decide +kernel
theorem dX5_extreme_121 : decode cX5_extreme 121 = .ok (.iload_n 2, 1) := by decide +kernel
theorem dX5_extreme_122 : decode cX5_extreme 122 = .ok (.ireturn, 1) := by decide +kernel
set_option maxRecDepth 20000 in
theorem ggX5_since_X5_isIn : GoodIn wsX5_since wsX5_isIn := goodIn_r _ [6] (by decide +kernel) (by decide +kernel)
set_option maxRecDepth 20000 in
theorem gX5_since_X5_isIn : GoodIn wsX5_since (va_wsS RX5 88 yX5_isIn wsX5_isIn) := goodIn_app (goodIn_of _ (by decide +kernel)) ggX5_since_X5_isIn
set_option maxRecDepth 20000 in
theorem ggX5_since_X5_isNumber : GoodIn wsX5_since wsX5_isNumber := goodIn_r _ [9, 10, 11] (by decide +kernel) (by decide +kernel)
set_option maxRecDepth 20000 in
theorem gX5_since_X5_isNumber : GoodIn wsX5_since (va_wsS RX5 112 yX5_isNumber wsX5_isNumber) := goodIn_app (goodIn_of _ (by decide +kernel)) ggX5_since_X5_isNumber
set_option maxRecDepth 20000 in
theorem ggX5_since_X5_isGauge : GoodIn wsX5_since wsX5_isGauge := goodIn_r _ [15, 16, 3, 4, 5, 6, 38, 39, 40, 41, 42, 43, 44, 45, 46, 47, 48, 49, 50, 51, 52, 53, 54, 55, 56, 57, 58, 59, 60, 61, 62, 63, 64, 65, 66, 67] (by decide +kernel) (by decide +kernel)
set_option maxRecDepth 20000 in
theorem gX5_since_X5_isGauge : GoodIn wsX5_since (wsV RX5 116 RX5 yX5_isGauge wsX5_isGauge) := goodIn_app (goodIn_of _ (by decide +kernel)) ggX5_since_X5_isGauge
set_option maxRecDepth 20000 in
theorem ggX5_since_X5_related : GoodIn wsX5_since wsX5_related := goodIn_r _ [20, 21, 22, 23, 24, 5, 25, 26, 27, 28, 29, 30, 31, 32, 33, 34, 35, 36, 37, 38, 39, 40, 41, 42, 43, 44, 45, 46, 47, 48, 49, 50, 51, 52, 53, 54, 55, 56, 57, 58, 59, 60, 61, 62, 63, 64, 65, 66, 67] (by decide +kernel) (by decide +kernel)
set_option maxRecDepth 20000 in
theorem gX5_since_X5_related : GoodIn wsX5_since (wsV RX5 138 RX5 yX5_related wsX5_related) := goodIn_app (goodIn_of _ (by decide +kernel)) ggX5_since_X5_related
theorem dX5_since_0 : decode cX5_since 0 = .ok (.iload_n 2, 1) := by decide +kernel
theorem dX5_since_1 : decode cX5_since 1 = .ok (.bipush 6, 2) := by decide +kernel
theorem dX5_since_3 : decode cX5_since 3 = .ok (.invokestatic 88, 3) := by decide +kernel
theorem dX5_since_6 : decode cX5_since 6 = .ok (.ifCond .eq 10, 3) := by decide +kernel
theorem dX5_since_9 : decode cX5_since 9 = .ok (.iload_n 3, 1) := by decide +kernel
theorem dX5_since_10 : decode cX5_since 10 = .ok (.invokestatic 112, 3) := by decide +kernel
theorem dX5_since_13 : decode cX5_since 13 = .ok (.ifCond .ne 6, 3) := by decide +kernel
theorem dX5_since_16 : decode cX5_since 16 = .ok (.bipush (-4), 2) := by decide +kernel
theorem dX5_since_18 : decode cX5_since 18 = .ok (.ireturn, 1) := by decide +kernel
theorem dX5_since_19 : decode cX5_since 19 = .ok (.aload_n 0, 1) := by decide +kernel
theorem dX5_since_20 : decode cX5_since 20 = .ok (.iload_n 1, 1) := by decide +kernel
theorem dX5_since_21 : decode cX5_since 21 = .ok (.invokevirtual 116, 3) := by decide +kernel
theorem dX5_since_24 : decode cX5_since 24 = .ok (.ifCond .ne 6, 3) := by decide +kernel
theorem dX5_since_27 : decode cX5_since 27 = .ok (.bipush (-2), 2) := by decide +kernel
theorem dX5_since_29 : decode cX5_since 29 = .ok (.ireturn, 1) := by decide +kernel
theorem dX5_since_30 : decode cX5_since 30 = .ok (.iconst 0, 1) := by decide +kernel
theorem dX5_since_31 : decode cX5_since 31 = .ok (.istore 4, 2) := by decide +kernel
theorem dX5_since_33 : decode cX5_since 33 = .ok (.iload 4, 2) := by decide +kernel
theorem dX5_since_35 : decode cX5_since 35 = .ok (.aload_n 0, 1) := by decide +kernel
theorem dX5_since_36 : decode cX5_since 36 = .ok (.getfield 41, 3) := by decide +kernel
theorem dX5_since_39 : decode cX5_since 39 = .ok (.iload_n 1, 1) := by decide +kernel
theorem dX5_since_40 : decode cX5_since 40 = .ok (.iaload, 1) := by decide +kernel
theorem dX5_since_41 : decode cX5_since 41 = .ok (.if_icmp .ge 32, 3) := by decide +kernel
theorem dX5_since_44 : decode cX5_since 44 = .ok (.aload_n 0, 1) := by decide +kernel
theorem dX5_since_45 : decode cX5_since 45 = .ok (.iload_n 1, 1) := by decide +kernel
theorem dX5_since_46 : decode cX5_since 46 = .ok (.aload_n 0, 1) := by decide +kernel
theorem dX5_since_47 : decode cX5_since 47 = .ok (.getfield 38, 3) := by decide +kernel
theorem dX5_since_50 : decode cX5_since 50 = .ok (.bipush 12, 2) := by decide +kernel
theorem dX5_since_52 : decode cX5_since 52 = .ok (.iload_n 1, 1) := by decide +kernel
theorem dX5_since_53 : decode cX5_since 53 = .ok (.imul, 1) := by decide +kernel
theorem dX5_since_54 : decode cX5_since 54 = .ok (.iload 4, 2) := by decide +kernel
theorem dX5_since_56 : decode cX5_since 56 = .ok (.iadd, 1) := by decide +kernel
theorem dX5_since_57 : decode cX5_since 57 = .ok (.iaload, 1) := by decide +kernel
theorem dX5_since_58 : decode cX5_since 58 = .ok (.iload_n 2, 1) := by decide +kernel
theorem dX5_since_59 : decode cX5_since 59 = .ok (.iload_n 1, 1) := by decide +kernel
theorem dX5_since_60 : decode cX5_since 60 = .ok (.iload_n 3, 1) := by decide +kernel
theorem dX5_since_61 : decode cX5_since 61 = .ok (.invokevirtual 138, 3) := by decide +kernel
theorem dX5_since_64 : decode cX5_since 64 = .ok (.ifCond .ne 9, 3) := by decide +kernel
theorem dX5_since_67 : decode cX5_since 67 = .ok (.iinc 4 1, 3) := by decide +kernel
theorem dX5_since_70 : decode cX5_since 70 = .ok (.goto (-37), 3) := by decide +kernel
theorem dX5_since_73 : decode cX5_since 73 = .ok (.iload 4, 2) := by decide +kernel
theorem dX5_since_75 : decode cX5_since 75 = .ok (.ireturn, 1) := by decide +kernel
set_option maxRecDepth 20000 in
theorem ggX5_counted_X5_isIn : GoodIn wsX5_counted wsX5_isIn := goodIn_r _ [6] (by decide +kernel) (by decide +kernel)
set_option maxRecDepth 20000 in
theorem gX5_counted_X5_isIn : GoodIn wsX5_counted (va_wsS RX5 88 yX5_isIn wsX5_isIn) := goodIn_app (goodIn_of _ (by decide +kernel)) ggX5_counted_X5_isIn
set_option maxRecDepth 20000 in
theorem ggX5_counted_X5_isNumber : GoodIn wsX5_counted wsX5_isNumber := goodIn_r _ [9, 10, 11] (by decide +kernel) (by decide +kernel)
set_option maxRecDepth 20000 in
theorem gX5_counted_X5_isNumber : GoodIn wsX5_counted (va_wsS RX5 112 yX5_isNumber wsX5_isNumber) := goodIn_app (goodIn_of _ (by decide +kernel)) ggX5_counted_X5_isNumber
set_option maxRecDepth 20000 in
theorem ggX5_counted_X5_isGauge : GoodIn wsX5_counted wsX5_isGauge := goodIn_r _ [15, 16, 3, 4, 5, 6, 38, 39, 40, 41, 42, 43, 44, 45, 46, 47, 48, 49, 50, 51, 52, 53, 54, 55, 56, 57, 58, 59, 60, 61, 62, 63, 64, 65, 66, 67] (by decide +kernel) (by decide +kernel)
set_option maxRecDepth 20000 in
theorem gX5_counted_X5_isGauge : GoodIn wsX5_counted (wsV RX5 116 RX5 yX5_isGauge wsX5_isGauge) := goodIn_app (goodIn_of _ (by decide +kernel)) ggX5_counted_X5_isGauge
set_option maxRecDepth 20000 in
theorem ggX5_counted_X5_related : GoodIn wsX5_counted wsX5_related := goodIn_r _ [20, 21, 22, 23, 24, 5, 25, 26, 27, 28, 29, 30, 31, 32, 33, 34, 35, 36, 37, 38, 39, 40, 41, 42, 43, 44, 45, 46, 47, 48, 49, 50, 51, 52, 53, 54, 55, 56, 57, 58, 59, 60, 61, 62, 63, 64, 65, 66, 67] (by decide +kernel) (by decide +kernel)
set_option maxRecDepth 20000 in
theorem gX5_counted_X5_related : GoodIn wsX5_counted (wsV RX5 138 RX5 yX5_related wsX5_related) := goodIn_app (goodIn_of _ (by decide +kernel)) ggX5_counted_X5_related
theorem dX5_counted_0 : decode cX5_counted 0 = .ok (.iload_n 2, 1) := by decide +kernel
theorem dX5_counted_1 : decode cX5_counted 1 = .ok (.bipush 6, 2) := by decide +kernel
theorem dX5_counted_3 : decode cX5_counted 3 = .ok (.invokestatic 88, 3) := by decide +kernel
theorem dX5_counted_6 : decode cX5_counted 6 = .ok (.ifCond .eq 10, 3) := by decide +kernel
theorem dX5_counted_9 : decode cX5_counted 9 = .ok (.iload_n 3, 1) := by decide +kernel
theorem dX5_counted_10 : decode cX5_counted 10 = .ok (.invokestatic 112, 3) := by decide +kernel
theorem dX5_counted_13 : decode cX5_counted 13 = .ok (.ifCond .ne 6, 3) := by decide +kernel
theorem dX5_counted_16 : decode cX5_counted 16 = .ok (.bipush (-4), 2) := by decide +kernel
theorem dX5_counted_18 : decode cX5_counted 18 = .ok (.ireturn, 1) := by decide +kernel
theorem dX5_counted_19 : decode cX5_counted 19 = .ok (.aload_n 0, 1) := by decide +kernel
theorem dX5_counted_20 : decode cX5_counted 20 = .ok (.iload_n 1, 1) := by decide +kernel
theorem dX5_counted_21 : decode cX5_counted 21 = .ok (.invokevirtual 116, 3) := by decide +kernel
theorem dX5_counted_24 : decode cX5_counted 24 = .ok (.ifCond .ne 6, 3) := by decide +kernel
theorem dX5_counted_27 : decode cX5_counted 27 = .ok (.bipush (-2), 2) := by decide +kernel
theorem dX5_counted_29 : decode cX5_counted 29 = .ok (.ireturn, 1) := by decide +kernel
theorem dX5_counted_30 : decode cX5_counted 30 = .ok (.iconst 0, 1) := by decide +kernel
theorem dX5_counted_31 : decode cX5_counted 31 = .ok (.istore 4, 2) := by decide +kernel
theorem dX5_counted_33 : decode cX5_counted 33 = .ok (.iconst 0, 1) := by decide +kernel
theorem dX5_counted_34 : decode cX5_counted 34 = .ok (.istore 5, 2) := by decide +kernel
theorem dX5_counted_36 : decode cX5_counted 36 = .ok (.iload 5, 2) := by decide +kernel
theorem dX5_counted_38 : decode cX5_counted 38 = .ok (.aload_n 0, 1) := by decide +kernel
theorem dX5_counted_39 : decode cX5_counted 39 = .ok (.getfield 41, 3) := by decide +kernel
theorem dX5_counted_42 : decode cX5_counted 42 = .ok (.iload_n 1, 1) := by decide +kernel
theorem dX5_counted_43 : decode cX5_counted 43 = .ok (.iaload, 1) := by decide +kernel
theorem dX5_counted_44 : decode cX5_counted 44 = .ok (.if_icmp .ge 42, 3) := by decide +kernel
theorem dX5_counted_47 : decode cX5_counted 47 = .ok (.iload 4, 2) := by decide +kernel
theorem dX5_counted_49 : decode cX5_counted 49 = .ok (.aload_n 0, 1) := by decide +kernel
theorem dX5_counted_50 : decode cX5_counted 50 = .ok (.iload_n 1, 1) := by decide +kernel
theorem dX5_counted_51 : decode cX5_counted 51 = .ok (.aload_n 0, 1) := by decide +kernel
theorem dX5_counted_52 : decode cX5_counted 52 = .ok (.getfield 38, 3) := by decide +kernel
theorem dX5_counted_55 : decode cX5_counted 55 = .ok (.bipush 12, 2) := by decide +kernel
theorem dX5_counted_57 : decode cX5_counted 57 = .ok (.iload_n 1, 1) := by decide +kernel
theorem dX5_counted_58 : decode cX5_counted 58 = .ok (.imul, 1) := by decide +kernel
theorem dX5_counted_59 : decode cX5_counted 59 = .ok (.iload 5, 2) := by decide +kernel
theorem dX5_counted_61 : decode cX5_counted 61 = .ok (.iadd, 1) := by decide +kernel
theorem dX5_counted_62 : decode cX5_counted 62 = .ok (.iaload, 1) := by decide +kernel
theorem dX5_counted_63 : decode cX5_counted 63 = .ok (.iload_n 2, 1) := by decide +kernel
theorem dX5_counted_64 : decode cX5_counted 64 = .ok (.iload_n 1, 1) := by decide +kernel
theorem dX5_counted_65 : decode cX5_counted 65 = .ok (.iload_n 3, 1) := by decide +kernel
theorem dX5_counted_66 : decode cX5_counted 66 = .ok (.invokevirtual 138, 3) := by decide +kernel
theorem dX5_counted_69 : decode cX5_counted 69 = .ok (.ifCond .eq 7, 3) := by decide +kernel
theorem dX5_counted_72 : decode cX5_counted 72 = .ok (.iconst 1, 1) := by decide +kernel
theorem dX5_counted_73 : decode cX5_counted 73 = .ok (.goto 4, 3) := by decide +kernel
theorem dX5_counted_76 : decode cX5_counted 76 = .ok (.iconst 0, 1) := by decide +kernel
theorem dX5_counted_77 : decode cX5_counted 77 = .ok (.iadd, 1) := by decide +kernel
theorem dX5_counted_78 : decode cX5_counted 78 = .ok (.istore 4, 2) := by decide +kernel
theorem dX5_counted_80 : decode cX5_counted 80 = .ok (.iinc 5 1, 3) := by decide +kernel
theorem dX5_counted_83 : decode cX5_counted 83 = .ok (.goto (-47), 3) := by decide +kernel
theorem dX5_counted_86 : decode cX5_counted 86 = .ok (.iload 4, 2) := by decide +kernel
theorem dX5_counted_88 : decode cX5_counted 88 = .ok (.ireturn, 1) := by decide +kernel
theorem dX5_event_0 : decode cX5_event 0 = .ok (.iload_n 1, 1) := by decide +kernel
theorem dX5_event_1 : decode cX5_event 1 = .ok (.ifCond .lt 26, 3) := by decide +kernel
theorem dX5_event_4 : decode cX5_event 4 = .ok (.iload_n 1, 1) := by decide +kernel
theorem dX5_event_5 : decode cX5_event 5 = .ok (.bipush 20, 2) := by decide +kernel
theorem dX5_event_7 : decode cX5_event 7 = .ok (.if_icmp .ge 20, 3) := by decide +kernel
theorem dX5_event_10 : decode cX5_event 10 = .ok (.iload_n 1, 1) := by decide +kernel
theorem dX5_event_11 : decode cX5_event 11 = .ok (.aload_n 0, 1) := by decide +kernel
theorem dX5_event_12 : decode cX5_event 12 = .ok (.getfield 162, 3) := by decide +kernel
theorem dX5_event_15 : decode cX5_event 15 = .ok (.if_icmp .ge 12, 3) := by decide +kernel
theorem dX5_event_18 : decode cX5_event 18 = .ok (.iload_n 2, 1) := by decide +kernel
theorem dX5_event_19 : decode cX5_event 19 = .ok (.ifCond .lt 8, 3) := by decide +kernel
theorem dX5_event_22 : decode cX5_event 22 = .ok (.iload_n 2, 1) := by decide +kernel
theorem dX5_event_23 : decode cX5_event 23 = .ok (.iconst 2, 1) := by decide +kernel
theorem dX5_event_24 : decode cX5_event 24 = .ok (.if_icmp .le 5, 3) := by decide +kernel
theorem dX5_event_27 : decode cX5_event 27 = .ok (.iconst (-1), 1) := by decide +kernel
theorem dX5_event_28 : decode cX5_event 28 = .ok (.ireturn, 1) := by decide +kernel
theorem dX5_event_29 : decode cX5_event 29 = .ok (.iload_n 2, 1) := by decide +kernel
theorem dX5_event_30 : decode cX5_event 30 = .ok (.ifCond .ne 12, 3) := by decide +kernel
theorem dX5_event_33 : decode cX5_event 33 = .ok (.aload_n 0, 1) := by decide +kernel
theorem dX5_event_34 : decode cX5_event 34 = .ok (.getfield 77, 3) := by decide +kernel
theorem dX5_event_37 : decode cX5_event 37 = .ok (.iload_n 1, 1) := by decide +kernel
theorem dX5_event_38 : decode cX5_event 38 = .ok (.iaload, 1) := by decide +kernel
theorem dX5_event_39 : decode cX5_event 39 = .ok (.goto 23, 3) := by decide +kernel
theorem dX5_event_42 : decode cX5_event 42 = .ok (.iload_n 2, 1) := by decide +kernel
theorem dX5_event_43 : decode cX5_event 43 = .ok (.iconst 1, 1) := by decide +kernel
theorem dX5_event_44 : decode cX5_event 44 = .ok (.if_icmp .ne 12, 3) := by decide +kernel
theorem dX5_event_47 : decode cX5_event 47 = .ok (.aload_n 0, 1) := by decide +kernel
theorem dX5_event_48 : decode cX5_event 48 = .ok (.getfield 80, 3) := by decide +kernel
theorem dX5_event_51 : decode cX5_event 51 = .ok (.iload_n 1, 1) := by decide +kernel
theorem dX5_event_52 : decode cX5_event 52 = .ok (.iaload, 1) := by decide +kernel
theorem dX5_event_53 : decode cX5_event 53 = .ok (.goto 9, 3) := by decide +kernel
theorem dX5_event_56 : decode cX5_event 56 = .ok (.aload_n 0, 1) := by decide +kernel
theorem dX5_event_57 : decode cX5_event 57 = .ok (.getfield 83, 3) := by decide +kernel
theorem dX5_event_60 : decode cX5_event 60 = .ok (.iload_n 1, 1) := by decide +kernel
theorem dX5_event_61 : decode cX5_event 61 = .ok (.iaload, 1) := by decide +kernel
theorem dX5_event_62 : decode cX5_event 62 = .ok (.ireturn, 1) := by decide +kernel
theorem dX5_about_0 : decode cX5_about 0 = .ok (.iconst 0, 1) := by decide +kernel
theorem dX5_about_1 : decode cX5_about 1 = .ok (.istore_n 2, 1) := by decide +kernel
theorem dX5_about_2 : decode cX5_about 2 = .ok (.iconst 0, 1) := by decide +kernel
theorem dX5_about_3 : decode cX5_about 3 = .ok (.istore_n 3, 1) := by decide +kernel
theorem dX5_about_4 : decode cX5_about 4 = .ok (.iload_n 3, 1) := by decide +kernel
theorem dX5_about_5 : decode cX5_about 5 = .ok (.bipush 16, 2) := by decide +kernel
theorem dX5_about_7 : decode cX5_about 7 = .ok (.if_icmp .ge 30, 3) := by decide +kernel
theorem dX5_about_10 : decode cX5_about 10 = .ok (.iload_n 1, 1) := by decide +kernel
theorem dX5_about_11 : decode cX5_about 11 = .ok (.ifCond .ne 26, 3) := by decide +kernel
theorem dX5_about_14 : decode cX5_about 14 = .ok (.iload_n 2, 1) := by decide +kernel
theorem dX5_about_15 : decode cX5_about 15 = .ok (.aload_n 0, 1) := by decide +kernel
theorem dX5_about_16 : decode cX5_about 16 = .ok (.getfield 7, 3) := by decide +kernel
theorem dX5_about_19 : decode cX5_about 19 = .ok (.iload_n 3, 1) := by decide +kernel
theorem dX5_about_20 : decode cX5_about 20 = .ok (.baload, 1) := by decide +kernel
theorem dX5_about_21 : decode cX5_about 21 = .ok (.ifCond .eq 7, 3) := by decide +kernel
theorem dX5_about_24 : decode cX5_about 24 = .ok (.iconst 1, 1) := by decide +kernel
theorem dX5_about_25 : decode cX5_about 25 = .ok (.goto 4, 3) := by decide +kernel
theorem dX5_about_28 : decode cX5_about 28 = .ok (.iconst 0, 1) := by decide +kernel
theorem dX5_about_29 : decode cX5_about 29 = .ok (.iadd, 1) := by decide +kernel
theorem dX5_about_30 : decode cX5_about 30 = .ok (.istore_n 2, 1) := by decide +kernel
theorem dX5_about_31 : decode cX5_about 31 = .ok (.iinc 3 1, 3) := by decide +kernel
theorem dX5_about_34 : decode cX5_about 34 = .ok (.goto (-30), 3) := by decide +kernel
theorem dX5_about_37 : decode cX5_about 37 = .ok (.iconst 0, 1) := by decide +kernel
theorem dX5_about_38 : decode cX5_about 38 = .ok (.istore_n 3, 1) := by decide +kernel
theorem dX5_about_39 : decode cX5_about 39 = .ok (.iload_n 3, 1) := by decide +kernel
theorem dX5_about_40 : decode cX5_about 40 = .ok (.bipush 8, 2) := by decide +kernel
theorem dX5_about_42 : decode cX5_about 42 = .ok (.if_icmp .ge 40, 3) := by decide +kernel
theorem dX5_about_45 : decode cX5_about 45 = .ok (.iload_n 1, 1) := by decide +kernel
theorem dX5_about_46 : decode cX5_about 46 = .ok (.iconst 5, 1) := by decide +kernel
theorem dX5_about_47 : decode cX5_about 47 = .ok (.if_icmp .ne 35, 3) := by decide +kernel
theorem dX5_about_50 : decode cX5_about 50 = .ok (.iload_n 2, 1) := by decide +kernel
theorem dX5_about_51 : decode cX5_about 51 = .ok (.aload_n 0, 1) := by decide +kernel
theorem dX5_about_52 : decode cX5_about 52 = .ok (.getfield 71, 3) := by decide +kernel
theorem dX5_about_55 : decode cX5_about 55 = .ok (.iload_n 3, 1) := by decide +kernel
theorem dX5_about_56 : decode cX5_about 56 = .ok (.baload, 1) := by decide +kernel
theorem dX5_about_57 : decode cX5_about 57 = .ok (.ifCond .eq 16, 3) := by decide +kernel
theorem dX5_about_60 : decode cX5_about 60 = .ok (.aload_n 0, 1) := by decide +kernel
theorem dX5_about_61 : decode cX5_about 61 = .ok (.getfield 74, 3) := by decide +kernel
theorem dX5_about_64 : decode cX5_about 64 = .ok (.iload_n 3, 1) := by decide +kernel
theorem dX5_about_65 : decode cX5_about 65 = .ok (.baload, 1) := by decide +kernel
theorem dX5_about_66 : decode cX5_about 66 = .ok (.ifCond .eq 7, 3) := by decide +kernel
theorem dX5_about_69 : decode cX5_about 69 = .ok (.iconst 1, 1) := by decide +kernel
theorem dX5_about_70 : decode cX5_about 70 = .ok (.goto 4, 3) := by decide +kernel
theorem dX5_about_73 : decode cX5_about 73 = .ok (.iconst 0, 1) := by decide +kernel
theorem dX5_about_74 : decode cX5_about 74 = .ok (.iadd, 1) := by decide +kernel
theorem dX5_about_75 : decode cX5_about 75 = .ok (.istore_n 2, 1) := by decide +kernel
theorem dX5_about_76 : decode cX5_about 76 = .ok (.iinc 3 1, 3) := by decide +kernel
theorem dX5_about_79 : decode cX5_about 79 = .ok (.goto (-40), 3) := by decide +kernel
theorem dX5_about_82 : decode cX5_about 82 = .ok (.iload_n 1, 1) := by decide +kernel
theorem dX5_about_83 : decode cX5_about 83 = .ok (.tableswitch 68 0 6 #[41, 43, 48, 53, 58, 41, 63], 41) := by decide +kernel
theorem dX5_about_124 : decode cX5_about 124 = .ok (.iload_n 2, 1) := by decide +kernel
theorem dX5_about_125 : decode cX5_about 125 = .ok (.ireturn, 1) := by decide +kernel
theorem dX5_about_126 : decode cX5_about 126 = .ok (.aload_n 0, 1) := by decide +kernel
theorem dX5_about_127 : decode cX5_about 127 = .ok (.getfield 155, 3) := by decide +kernel
theorem dX5_about_130 : decode cX5_about 130 = .ok (.ireturn, 1) := by decide +kernel
theorem dX5_about_131 : decode cX5_about 131 = .ok (.aload_n 0, 1) := by decide +kernel
theorem dX5_about_132 : decode cX5_about 132 = .ok (.getfield 131, 3) := by decide +kernel
theorem dX5_about_135 : decode cX5_about 135 = .ok (.ireturn, 1) := by decide +kernel
theorem dX5_about_136 : decode cX5_about 136 = .ok (.aload_n 0, 1) := by decide +kernel
theorem dX5_about_137 : decode cX5_about 137 = .ok (.getfield 128, 3) := by decide +kernel
theorem dX5_about_140 : decode cX5_about 140 = .ok (.ireturn, 1) := by decide +kernel
theorem dX5_about_141 : decode cX5_about 141 = .ok (.aload_n 0, 1) := by decide +kernel
theorem dX5_about_142 : decode cX5_about 142 = .ok (.getfield 124, 3) := by decide +kernel
theorem dX5_about_145 : decode cX5_about 145 = .ok (.ireturn, 1) := by decide +kernel
theorem dX5_about_146 : decode cX5_about 146 = .ok (.aload_n 0, 1) := by decide +kernel
theorem dX5_about_147 : decode cX5_about 147 = .ok (.getfield 162, 3) := by decide +kernel
theorem dX5_about_150 : decode cX5_about 150 = .ok (.ireturn, 1) := by decide +kernel
theorem dX5_about_151 : decode cX5_about 151 = .ok (.iconst (-1), 1) := by decide +kernel
theorem dX5_about_152 : decode cX5_about 152 = .ok (.ireturn, 1) := by decide +kernel
theorem dJ9_max_7cf53_0 : decode cJ9_max_7cf53 0 = .ok (.iload_n 0, 1) := by decide +kernel
theorem dJ9_max_7cf53_1 : decode cJ9_max_7cf53 1 = .ok (.iload_n 1, 1) := by decide +kernel
theorem dJ9_max_7cf53_2 : decode cJ9_max_7cf53 2 = .ok (.if_icmp .lt 7, 3) := by decide +kernel
theorem dJ9_max_7cf53_5 : decode cJ9_max_7cf53 5 = .ok (.iload_n 0, 1) := by decide +kernel
theorem dJ9_max_7cf53_6 : decode cJ9_max_7cf53 6 = .ok (.goto 4, 3) := by decide +kernel
theorem dJ9_max_7cf53_9 : decode cJ9_max_7cf53 9 = .ok (.iload_n 1, 1) := by decide +kernel
theorem dJ9_max_7cf53_10 : decode cJ9_max_7cf53 10 = .ok (.ireturn, 1) := by decide +kernel
