theorem dX5_init_0 : decode cX5_init 0 = .ok (.aload_n 0, 1) := by decide +kernel
theorem dX5_init_1 : decode cX5_init 1 = .ok (.invokespecial 1, 3) := by decide +kernel
theorem dX5_init_4 : decode cX5_init 4 = .ok (.aload_n 0, 1) := by decide +kernel
theorem dX5_init_5 : decode cX5_init 5 = .ok (.bipush 9, 2) := by decide +kernel
theorem dX5_init_7 : decode cX5_init 7 = .ok (.newarray .int, 2) := by decide +kernel
theorem dX5_init_9 : decode cX5_init 9 = .ok (.putfield 7, 3) := by decide +kernel
theorem dX5_init_12 : decode cX5_init 12 = .ok (.aload_n 0, 1) := by decide +kernel
theorem dX5_init_13 : decode cX5_init 13 = .ok (.bipush 9, 2) := by decide +kernel
theorem dX5_init_15 : decode cX5_init 15 = .ok (.newarray .int, 2) := by decide +kernel
theorem dX5_init_17 : decode cX5_init 17 = .ok (.putfield 13, 3) := by decide +kernel
theorem dX5_init_20 : decode cX5_init 20 = .ok (.aload_n 0, 1) := by decide +kernel
theorem dX5_init_21 : decode cX5_init 21 = .ok (.bipush 9, 2) := by decide +kernel
theorem dX5_init_23 : decode cX5_init 23 = .ok (.newarray .int, 2) := by decide +kernel
theorem dX5_init_25 : decode cX5_init 25 = .ok (.putfield 16, 3) := by decide +kernel
theorem dX5_init_28 : decode cX5_init 28 = .ok (.aload_n 0, 1) := by decide +kernel
theorem dX5_init_29 : decode cX5_init 29 = .ok (.bipush 9, 2) := by decide +kernel
theorem dX5_init_31 : decode cX5_init 31 = .ok (.newarray .int, 2) := by decide +kernel
theorem dX5_init_33 : decode cX5_init 33 = .ok (.putfield 19, 3) := by decide +kernel
theorem dX5_init_36 : decode cX5_init 36 = .ok (.aload_n 0, 1) := by decide +kernel
theorem dX5_init_37 : decode cX5_init 37 = .ok (.bipush 21, 2) := by decide +kernel
theorem dX5_init_39 : decode cX5_init 39 = .ok (.newarray .int, 2) := by decide +kernel
theorem dX5_init_41 : decode cX5_init 41 = .ok (.putfield 22, 3) := by decide +kernel
theorem dX5_init_44 : decode cX5_init 44 = .ok (.aload_n 0, 1) := by decide +kernel
theorem dX5_init_45 : decode cX5_init 45 = .ok (.bipush 21, 2) := by decide +kernel
theorem dX5_init_47 : decode cX5_init 47 = .ok (.newarray .int, 2) := by decide +kernel
theorem dX5_init_49 : decode cX5_init 49 = .ok (.putfield 25, 3) := by decide +kernel
theorem dX5_init_52 : decode cX5_init 52 = .ok (.aload_n 0, 1) := by decide +kernel
theorem dX5_init_53 : decode cX5_init 53 = .ok (.bipush 84, 2) := by decide +kernel
theorem dX5_init_55 : decode cX5_init 55 = .ok (.newarray .long, 2) := by decide +kernel
theorem dX5_init_57 : decode cX5_init 57 = .ok (.putfield 28, 3) := by decide +kernel
theorem dX5_init_60 : decode cX5_init 60 = .ok (.aload_n 0, 1) := by decide +kernel
theorem dX5_init_61 : decode cX5_init 61 = .ok (.bipush 61, 2) := by decide +kernel
theorem dX5_init_63 : decode cX5_init 63 = .ok (.newarray .int, 2) := by decide +kernel
theorem dX5_init_65 : decode cX5_init 65 = .ok (.putfield 32, 3) := by decide +kernel
theorem dX5_init_68 : decode cX5_init 68 = .ok (.aload_n 0, 1) := by decide +kernel
theorem dX5_init_69 : decode cX5_init 69 = .ok (.bipush 61, 2) := by decide +kernel
theorem dX5_init_71 : decode cX5_init 71 = .ok (.newarray .int, 2) := by decide +kernel
theorem dX5_init_73 : decode cX5_init 73 = .ok (.putfield 35, 3) := by decide +kernel
theorem dX5_init_76 : decode cX5_init 76 = .ok (.aload_n 0, 1) := by decide +kernel
theorem dX5_init_77 : decode cX5_init 77 = .ok (.bipush 61, 2) := by decide +kernel
theorem dX5_init_79 : decode cX5_init 79 = .ok (.newarray .int, 2) := by decide +kernel
theorem dX5_init_81 : decode cX5_init 81 = .ok (.putfield 38, 3) := by decide +kernel
theorem dX5_init_84 : decode cX5_init 84 = .ok (.aload_n 0, 1) := by decide +kernel
theorem dX5_init_85 : decode cX5_init 85 = .ok (.bipush 61, 2) := by decide +kernel
theorem dX5_init_87 : decode cX5_init 87 = .ok (.newarray .long, 2) := by decide +kernel
theorem dX5_init_89 : decode cX5_init 89 = .ok (.putfield 41, 3) := by decide +kernel
theorem dX5_init_92 : decode cX5_init 92 = .ok (.aload_n 0, 1) := by decide +kernel
theorem dX5_init_93 : decode cX5_init 93 = .ok (.bipush 61, 2) := by decide +kernel
theorem dX5_init_95 : decode cX5_init 95 = .ok (.newarray .boolean, 2) := by decide +kernel
theorem dX5_init_97 : decode cX5_init 97 = .ok (.putfield 44, 3) := by decide +kernel
theorem dX5_init_100 : decode cX5_init 100 = .ok (.aload_n 0, 1) := by decide +kernel
theorem dX5_init_101 : decode cX5_init 101 = .ok (.bipush 61, 2) := by decide +kernel
theorem dX5_init_103 : decode cX5_init 103 = .ok (.newarray .boolean, 2) := by decide +kernel
theorem dX5_init_105 : decode cX5_init 105 = .ok (.putfield 48, 3) := by decide +kernel
theorem dX5_init_108 : decode cX5_init 108 = .ok (.aload_n 0, 1) := by decide +kernel
theorem dX5_init_109 : decode cX5_init 109 = .ok (.sipush 4200, 3) := by decide +kernel
theorem dX5_init_112 : decode cX5_init 112 = .ok (.newarray .int, 2) := by decide +kernel
theorem dX5_init_114 : decode cX5_init 114 = .ok (.putfield 51, 3) := by decide +kernel
theorem dX5_init_117 : decode cX5_init 117 = .ok (.aload_n 0, 1) := by decide +kernel
theorem dX5_init_118 : decode cX5_init 118 = .ok (.sipush 4200, 3) := by decide +kernel
theorem dX5_init_121 : decode cX5_init 121 = .ok (.newarray .int, 2) := by decide +kernel
theorem dX5_init_123 : decode cX5_init 123 = .ok (.putfield 54, 3) := by decide +kernel
theorem dX5_init_126 : decode cX5_init 126 = .ok (.aload_n 0, 1) := by decide +kernel
theorem dX5_init_127 : decode cX5_init 127 = .ok (.sipush 4200, 3) := by decide +kernel
theorem dX5_init_130 : decode cX5_init 130 = .ok (.newarray .int, 2) := by decide +kernel
theorem dX5_init_132 : decode cX5_init 132 = .ok (.putfield 57, 3) := by decide +kernel
theorem dX5_init_135 : decode cX5_init 135 = .ok (.aload_n 0, 1) := by decide +kernel
theorem dX5_init_136 : decode cX5_init 136 = .ok (.sipush 4200, 3) := by decide +kernel
theorem dX5_init_139 : decode cX5_init 139 = .ok (.newarray .int, 2) := by decide +kernel
theorem dX5_init_141 : decode cX5_init 141 = .ok (.putfield 60, 3) := by decide +kernel
theorem dX5_init_144 : decode cX5_init 144 = .ok (.aload_n 0, 1) := by decide +kernel
theorem dX5_init_145 : decode cX5_init 145 = .ok (.sipush 4200, 3) := by decide +kernel
theorem dX5_init_148 : decode cX5_init 148 = .ok (.newarray .int, 2) := by decide +kernel
theorem dX5_init_150 : decode cX5_init 150 = .ok (.putfield 63, 3) := by decide +kernel
theorem dX5_init_153 : decode cX5_init 153 = .ok (.aload_n 0, 1) := by decide +kernel
theorem dX5_init_154 : decode cX5_init 154 = .ok (.sipush 4200, 3) := by decide +kernel
theorem dX5_init_157 : decode cX5_init 157 = .ok (.newarray .boolean, 2) := by decide +kernel
theorem dX5_init_159 : decode cX5_init 159 = .ok (.putfield 66, 3) := by decide +kernel
theorem dX5_init_162 : decode cX5_init 162 = .ok (.aload_n 0, 1) := by decide +kernel
theorem dX5_init_163 : decode cX5_init 163 = .ok (.sipush 4200, 3) := by decide +kernel
theorem dX5_init_166 : decode cX5_init 166 = .ok (.newarray .boolean, 2) := by decide +kernel
theorem dX5_init_168 : decode cX5_init 168 = .ok (.putfield 69, 3) := by decide +kernel
theorem dX5_init_171 : decode cX5_init 171 = .ok (.aload_n 0, 1) := by decide +kernel
theorem dX5_init_172 : decode cX5_init 172 = .ok (.sipush 4200, 3) := by decide +kernel
theorem dX5_init_175 : decode cX5_init 175 = .ok (.newarray .int, 2) := by decide +kernel
theorem dX5_init_177 : decode cX5_init 177 = .ok (.putfield 72, 3) := by decide +kernel
theorem dX5_init_180 : decode cX5_init 180 = .ok (.aload_n 0, 1) := by decide +kernel
theorem dX5_init_181 : decode cX5_init 181 = .ok (.sipush 4200, 3) := by decide +kernel
theorem dX5_init_184 : decode cX5_init 184 = .ok (.newarray .int, 2) := by decide +kernel
theorem dX5_init_186 : decode cX5_init 186 = .ok (.putfield 75, 3) := by decide +kernel
theorem dX5_init_189 : decode cX5_init 189 = .ok (.aload_n 0, 1) := by decide +kernel
theorem dX5_init_190 : decode cX5_init 190 = .ok (.iconst 3, 1) := by decide +kernel
theorem dX5_init_191 : decode cX5_init 191 = .ok (.putfield 78, 3) := by decide +kernel
theorem dX5_init_194 : decode cX5_init 194 = .ok (.iconst 0, 1) := by decide +kernel
theorem dX5_init_195 : decode cX5_init 195 = .ok (.istore_n 1, 1) := by decide +kernel
theorem dX5_init_196 : decode cX5_init 196 = .ok (.iload_n 1, 1) := by decide +kernel
theorem dX5_init_197 : decode cX5_init 197 = .ok (.bipush 9, 2) := by decide +kernel
theorem dX5_init_199 : decode cX5_init 199 = .ok (.if_icmp .ge 16, 3) := by decide +kernel
theorem dX5_init_202 : decode cX5_init 202 = .ok (.aload_n 0, 1) := by decide +kernel
theorem dX5_init_203 : decode cX5_init 203 = .ok (.getfield 19, 3) := by decide +kernel
theorem dX5_init_206 : decode cX5_init 206 = .ok (.iload_n 1, 1) := by decide +kernel
theorem dX5_init_207 : decode cX5_init 207 = .ok (.iconst (-1), 1) := by decide +kernel
theorem dX5_init_208 : decode cX5_init 208 = .ok (.iastore, 1) := by decide +kernel
theorem dX5_init_209 : decode cX5_init 209 = .ok (.iinc 1 1, 3) := by decide +kernel
theorem dX5_init_212 : decode cX5_init 212 = .ok (.goto (-16), 3) := by decide +kernel
theorem dX5_init_215 : decode cX5_init 215 = .ok (.return_, 1) := by decide +kernel
theorem dX5_thrown_0 : decode cX5_thrown 0 = .ok (.aload_n 0, 1) := by decide +kernel
theorem dX5_thrown_1 : decode cX5_thrown 1 = .ok (.getfield 82, 3) := by decide +kernel
theorem dX5_thrown_4 : decode cX5_thrown 4 = .ok (.ireturn, 1) := by decide +kernel
theorem dX5_in_0 : decode cX5_in 0 = .ok (.lload_n 0, 1) := by decide +kernel
theorem dX5_in_1 : decode cX5_in 1 = .ok (.lload_n 2, 1) := by decide +kernel
theorem dX5_in_2 : decode cX5_in 2 = .ok (.lcmp, 1) := by decide +kernel
theorem dX5_in_3 : decode cX5_in 3 = .ok (.ifCond .lt 14, 3) := by decide +kernel
theorem dX5_in_6 : decode cX5_in 6 = .ok (.lload_n 0, 1) := by decide +kernel
theorem dX5_in_7 : decode cX5_in 7 = .ok (.lload 4, 2) := by decide +kernel
theorem dX5_in_9 : decode cX5_in 9 = .ok (.lcmp, 1) := by decide +kernel
theorem dX5_in_10 : decode cX5_in 10 = .ok (.ifCond .gt 7, 3) := by decide +kernel
theorem dX5_in_13 : decode cX5_in 13 = .ok (.iconst 1, 1) := by decide +kernel
theorem dX5_in_14 : decode cX5_in 14 = .ok (.goto 4, 3) := by decide +kernel
theorem dX5_in_17 : decode cX5_in 17 = .ok (.iconst 0, 1) := by decide +kernel
theorem dX5_in_18 : decode cX5_in 18 = .ok (.ireturn, 1) := by decide +kernel
set_option maxRecDepth 20000 in
theorem ggX5_printer_X5_in : GoodIn wsX5_printer wsX5_in := goodIn_r _ [10] (by decide +kernel) (by decide +kernel)
set_option maxRecDepth 20000 in
theorem gX5_printer_X5_in : GoodIn wsX5_printer (va_wsS RX5 87 yX5_in wsX5_in) := goodIn_app (goodIn_of _ (by decide +kernel)) ggX5_printer_X5_in
theorem dX5_printer_0 : decode cX5_printer 0 = .ok (.aload_n 0, 1) := by decide +kernel
theorem dX5_printer_1 : decode cX5_printer 1 = .ok (.iload_n 1, 1) := by decide +kernel
theorem dX5_printer_2 : decode cX5_printer 2 = .ok (.i2l, 1) := by decide +kernel
theorem dX5_printer_3 : decode cX5_printer 3 = .ok (.lconst 0, 1) := by decide +kernel
theorem dX5_printer_4 : decode cX5_printer 4 = .ok (.ldc2_w 85, 3) := by decide +kernel
theorem dX5_printer_7 : decode cX5_printer 7 = .ok (.invokestatic 87, 3) := by decide +kernel
theorem dX5_printer_10 : decode cX5_printer 10 = .ok (.ifCond .eq 15, 3) := by decide +kernel
theorem dX5_printer_13 : decode cX5_printer 13 = .ok (.iload_n 2, 1) := by decide +kernel
theorem dX5_printer_14 : decode cX5_printer 14 = .ok (.i2l, 1) := by decide +kernel
theorem dX5_printer_15 : decode cX5_printer 15 = .ok (.lconst 1, 1) := by decide +kernel
theorem dX5_printer_16 : decode cX5_printer 16 = .ok (.ldc2_w 91, 3) := by decide +kernel
theorem dX5_printer_19 : decode cX5_printer 19 = .ok (.invokestatic 87, 3) := by decide +kernel
theorem dX5_printer_22 : decode cX5_printer 22 = .ok (.ifCond .ne 7, 3) := by decide +kernel
theorem dX5_printer_25 : decode cX5_printer 25 = .ok (.iconst 1, 1) := by decide +kernel
theorem dX5_printer_26 : decode cX5_printer 26 = .ok (.goto 17, 3) := by decide +kernel
theorem dX5_printer_29 : decode cX5_printer 29 = .ok (.aload_n 0, 1) := by decide +kernel
theorem dX5_printer_30 : decode cX5_printer 30 = .ok (.getfield 93, 3) := by decide +kernel
theorem dX5_printer_33 : decode cX5_printer 33 = .ok (.bipush 8, 2) := by decide +kernel
theorem dX5_printer_35 : decode cX5_printer 35 = .ok (.if_icmp .ne 7, 3) := by decide +kernel
theorem dX5_printer_38 : decode cX5_printer 38 = .ok (.iconst 2, 1) := by decide +kernel
theorem dX5_printer_39 : decode cX5_printer 39 = .ok (.goto 4, 3) := by decide +kernel
theorem dX5_printer_42 : decode cX5_printer 42 = .ok (.iconst 0, 1) := by decide +kernel
theorem dX5_printer_43 : decode cX5_printer 43 = .ok (.putfield 82, 3) := by decide +kernel
theorem dX5_printer_46 : decode cX5_printer 46 = .ok (.aload_n 0, 1) := by decide +kernel
theorem dX5_printer_47 : decode cX5_printer 47 = .ok (.getfield 82, 3) := by decide +kernel
theorem dX5_printer_50 : decode cX5_printer 50 = .ok (.ifCond .le 5, 3) := by decide +kernel
theorem dX5_printer_53 : decode cX5_printer 53 = .ok (.iconst 0, 1) := by decide +kernel
theorem dX5_printer_54 : decode cX5_printer 54 = .ok (.ireturn, 1) := by decide +kernel
theorem dX5_printer_55 : decode cX5_printer 55 = .ok (.aload_n 0, 1) := by decide +kernel
theorem dX5_printer_56 : decode cX5_printer 56 = .ok (.dup, 1) := by decide +kernel
theorem dX5_printer_57 : decode cX5_printer 57 = .ok (.getfield 93, 3) := by decide +kernel
theorem dX5_printer_60 : decode cX5_printer 60 = .ok (.iconst 1, 1) := by decide +kernel
theorem dX5_printer_61 : decode cX5_printer 61 = .ok (.iadd, 1) := by decide +kernel
theorem dX5_printer_62 : decode cX5_printer 62 = .ok (.putfield 93, 3) := by decide +kernel
theorem dX5_printer_65 : decode cX5_printer 65 = .ok (.aload_n 0, 1) := by decide +kernel
theorem dX5_printer_66 : decode cX5_printer 66 = .ok (.getfield 7, 3) := by decide +kernel
theorem dX5_printer_69 : decode cX5_printer 69 = .ok (.aload_n 0, 1) := by decide +kernel
theorem dX5_printer_70 : decode cX5_printer 70 = .ok (.getfield 93, 3) := by decide +kernel
theorem dX5_printer_73 : decode cX5_printer 73 = .ok (.iload_n 1, 1) := by decide +kernel
theorem dX5_printer_74 : decode cX5_printer 74 = .ok (.iastore, 1) := by decide +kernel
theorem dX5_printer_75 : decode cX5_printer 75 = .ok (.aload_n 0, 1) := by decide +kernel
theorem dX5_printer_76 : decode cX5_printer 76 = .ok (.getfield 13, 3) := by decide +kernel
theorem dX5_printer_79 : decode cX5_printer 79 = .ok (.aload_n 0, 1) := by decide +kernel
theorem dX5_printer_80 : decode cX5_printer 80 = .ok (.getfield 93, 3) := by decide +kernel
theorem dX5_printer_83 : decode cX5_printer 83 = .ok (.iload_n 2, 1) := by decide +kernel
theorem dX5_printer_84 : decode cX5_printer 84 = .ok (.iastore, 1) := by decide +kernel
theorem dX5_printer_85 : decode cX5_printer 85 = .ok (.aload_n 0, 1) := by decide +kernel
theorem dX5_printer_86 : decode cX5_printer 86 = .ok (.getfield 93, 3) := by decide +kernel
theorem dX5_printer_89 : decode cX5_printer 89 = .ok (.ireturn, 1) := by decide +kernel
set_option maxRecDepth 20000 in
theorem ggX5_ticket_X5_in : GoodIn wsX5_ticket wsX5_in := goodIn_r _ [11] (by decide +kernel) (by decide +kernel)
set_option maxRecDepth 20000 in
theorem gX5_ticket_X5_in : GoodIn wsX5_ticket (va_wsS RX5 87 yX5_in wsX5_in) := goodIn_app (goodIn_of _ (by decide +kernel)) ggX5_ticket_X5_in
theorem dX5_ticket_0 : decode cX5_ticket 0 = .ok (.aload_n 0, 1) := by decide +kernel
theorem dX5_ticket_1 : decode cX5_ticket 1 = .ok (.iload_n 1, 1) := by decide +kernel
theorem dX5_ticket_2 : decode cX5_ticket 2 = .ok (.i2l, 1) := by decide +kernel
theorem dX5_ticket_3 : decode cX5_ticket 3 = .ok (.lconst 0, 1) := by decide +kernel
theorem dX5_ticket_4 : decode cX5_ticket 4 = .ok (.ldc2_w 85, 3) := by decide +kernel
theorem dX5_ticket_7 : decode cX5_ticket 7 = .ok (.invokestatic 87, 3) := by decide +kernel
theorem dX5_ticket_10 : decode cX5_ticket 10 = .ok (.ifCond .eq 27, 3) := by decide +kernel
theorem dX5_ticket_13 : decode cX5_ticket 13 = .ok (.iload_n 2, 1) := by decide +kernel
theorem dX5_ticket_14 : decode cX5_ticket 14 = .ok (.i2l, 1) := by decide +kernel
theorem dX5_ticket_15 : decode cX5_ticket 15 = .ok (.lconst 1, 1) := by decide +kernel
theorem dX5_ticket_16 : decode cX5_ticket 16 = .ok (.ldc2_w 91, 3) := by decide +kernel
theorem dX5_ticket_19 : decode cX5_ticket 19 = .ok (.invokestatic 87, 3) := by decide +kernel
theorem dX5_ticket_22 : decode cX5_ticket 22 = .ok (.ifCond .eq 15, 3) := by decide +kernel
theorem dX5_ticket_25 : decode cX5_ticket 25 = .ok (.iload_n 3, 1) := by decide +kernel
theorem dX5_ticket_26 : decode cX5_ticket 26 = .ok (.i2l, 1) := by decide +kernel
theorem dX5_ticket_27 : decode cX5_ticket 27 = .ok (.lconst 0, 1) := by decide +kernel
theorem dX5_ticket_28 : decode cX5_ticket 28 = .ok (.ldc2_w 96, 3) := by decide +kernel
theorem dX5_ticket_31 : decode cX5_ticket 31 = .ok (.invokestatic 87, 3) := by decide +kernel
theorem dX5_ticket_34 : decode cX5_ticket 34 = .ok (.ifCond .ne 7, 3) := by decide +kernel
theorem dX5_ticket_37 : decode cX5_ticket 37 = .ok (.iconst 1, 1) := by decide +kernel
theorem dX5_ticket_38 : decode cX5_ticket 38 = .ok (.goto 17, 3) := by decide +kernel
theorem dX5_ticket_41 : decode cX5_ticket 41 = .ok (.aload_n 0, 1) := by decide +kernel
theorem dX5_ticket_42 : decode cX5_ticket 42 = .ok (.getfield 98, 3) := by decide +kernel
theorem dX5_ticket_45 : decode cX5_ticket 45 = .ok (.bipush 20, 2) := by decide +kernel
theorem dX5_ticket_47 : decode cX5_ticket 47 = .ok (.if_icmp .ne 7, 3) := by decide +kernel
theorem dX5_ticket_50 : decode cX5_ticket 50 = .ok (.iconst 2, 1) := by decide +kernel
theorem dX5_ticket_51 : decode cX5_ticket 51 = .ok (.goto 4, 3) := by decide +kernel
theorem dX5_ticket_54 : decode cX5_ticket 54 = .ok (.iconst 0, 1) := by decide +kernel
theorem dX5_ticket_55 : decode cX5_ticket 55 = .ok (.putfield 82, 3) := by decide +kernel
theorem dX5_ticket_58 : decode cX5_ticket 58 = .ok (.aload_n 0, 1) := by decide +kernel
theorem dX5_ticket_59 : decode cX5_ticket 59 = .ok (.getfield 82, 3) := by decide +kernel
theorem dX5_ticket_62 : decode cX5_ticket 62 = .ok (.ifCond .le 5, 3) := by decide +kernel
theorem dX5_ticket_65 : decode cX5_ticket 65 = .ok (.iconst 0, 1) := by decide +kernel
theorem dX5_ticket_66 : decode cX5_ticket 66 = .ok (.ireturn, 1) := by decide +kernel
theorem dX5_ticket_67 : decode cX5_ticket 67 = .ok (.aload_n 0, 1) := by decide +kernel
theorem dX5_ticket_68 : decode cX5_ticket 68 = .ok (.dup, 1) := by decide +kernel
theorem dX5_ticket_69 : decode cX5_ticket 69 = .ok (.getfield 98, 3) := by decide +kernel
theorem dX5_ticket_72 : decode cX5_ticket 72 = .ok (.iconst 1, 1) := by decide +kernel
theorem dX5_ticket_73 : decode cX5_ticket 73 = .ok (.iadd, 1) := by decide +kernel
theorem dX5_ticket_74 : decode cX5_ticket 74 = .ok (.putfield 98, 3) := by decide +kernel
theorem dX5_ticket_77 : decode cX5_ticket 77 = .ok (.aload_n 0, 1) := by decide +kernel
theorem dX5_ticket_78 : decode cX5_ticket 78 = .ok (.getfield 22, 3) := by decide +kernel
theorem dX5_ticket_81 : decode cX5_ticket 81 = .ok (.aload_n 0, 1) := by decide +kernel
theorem dX5_ticket_82 : decode cX5_ticket 82 = .ok (.getfield 98, 3) := by decide +kernel
theorem dX5_ticket_85 : decode cX5_ticket 85 = .ok (.iload_n 1, 1) := by decide +kernel
theorem dX5_ticket_86 : decode cX5_ticket 86 = .ok (.iastore, 1) := by decide +kernel
theorem dX5_ticket_87 : decode cX5_ticket 87 = .ok (.aload_n 0, 1) := by decide +kernel
theorem dX5_ticket_88 : decode cX5_ticket 88 = .ok (.getfield 25, 3) := by decide +kernel
theorem dX5_ticket_91 : decode cX5_ticket 91 = .ok (.aload_n 0, 1) := by decide +kernel
theorem dX5_ticket_92 : decode cX5_ticket 92 = .ok (.getfield 98, 3) := by decide +kernel
theorem dX5_ticket_95 : decode cX5_ticket 95 = .ok (.iload_n 2, 1) := by decide +kernel
theorem dX5_ticket_96 : decode cX5_ticket 96 = .ok (.iastore, 1) := by decide +kernel
theorem dX5_ticket_97 : decode cX5_ticket 97 = .ok (.aload_n 0, 1) := by decide +kernel
theorem dX5_ticket_98 : decode cX5_ticket 98 = .ok (.getfield 98, 3) := by decide +kernel
theorem dX5_ticket_101 : decode cX5_ticket 101 = .ok (.ireturn, 1) := by decide +kernel
theorem dX5_addPart_0 : decode cX5_addPart 0 = .ok (.aload_n 0, 1) := by decide +kernel
theorem dX5_addPart_1 : decode cX5_addPart 1 = .ok (.getfield 51, 3) := by decide +kernel
theorem dX5_addPart_4 : decode cX5_addPart 4 = .ok (.aload_n 0, 1) := by decide +kernel
theorem dX5_addPart_5 : decode cX5_addPart 5 = .ok (.getfield 101, 3) := by decide +kernel
theorem dX5_addPart_8 : decode cX5_addPart 8 = .ok (.iload_n 1, 1) := by decide +kernel
theorem dX5_addPart_9 : decode cX5_addPart 9 = .ok (.iastore, 1) := by decide +kernel
theorem dX5_addPart_10 : decode cX5_addPart 10 = .ok (.aload_n 0, 1) := by decide +kernel
theorem dX5_addPart_11 : decode cX5_addPart 11 = .ok (.getfield 54, 3) := by decide +kernel
theorem dX5_addPart_14 : decode cX5_addPart 14 = .ok (.aload_n 0, 1) := by decide +kernel
theorem dX5_addPart_15 : decode cX5_addPart 15 = .ok (.getfield 101, 3) := by decide +kernel
theorem dX5_addPart_18 : decode cX5_addPart 18 = .ok (.iload_n 2, 1) := by decide +kernel
theorem dX5_addPart_19 : decode cX5_addPart 19 = .ok (.iastore, 1) := by decide +kernel
theorem dX5_addPart_20 : decode cX5_addPart 20 = .ok (.aload_n 0, 1) := by decide +kernel
theorem dX5_addPart_21 : decode cX5_addPart 21 = .ok (.getfield 57, 3) := by decide +kernel
theorem dX5_addPart_24 : decode cX5_addPart 24 = .ok (.aload_n 0, 1) := by decide +kernel
theorem dX5_addPart_25 : decode cX5_addPart 25 = .ok (.getfield 101, 3) := by decide +kernel
theorem dX5_addPart_28 : decode cX5_addPart 28 = .ok (.iload_n 3, 1) := by decide +kernel
theorem dX5_addPart_29 : decode cX5_addPart 29 = .ok (.iastore, 1) := by decide +kernel
theorem dX5_addPart_30 : decode cX5_addPart 30 = .ok (.aload_n 0, 1) := by decide +kernel
theorem dX5_addPart_31 : decode cX5_addPart 31 = .ok (.getfield 60, 3) := by decide +kernel
theorem dX5_addPart_34 : decode cX5_addPart 34 = .ok (.aload_n 0, 1) := by decide +kernel
theorem dX5_addPart_35 : decode cX5_addPart 35 = .ok (.getfield 101, 3) := by decide +kernel
theorem dX5_addPart_38 : decode cX5_addPart 38 = .ok (.iconst 0, 1) := by decide +kernel
theorem dX5_addPart_39 : decode cX5_addPart 39 = .ok (.iastore, 1) := by decide +kernel
theorem dX5_addPart_40 : decode cX5_addPart 40 = .ok (.aload_n 0, 1) := by decide +kernel
theorem dX5_addPart_41 : decode cX5_addPart 41 = .ok (.getfield 63, 3) := by decide +kernel
theorem dX5_addPart_44 : decode cX5_addPart 44 = .ok (.aload_n 0, 1) := by decide +kernel
theorem dX5_addPart_45 : decode cX5_addPart 45 = .ok (.getfield 101, 3) := by decide +kernel
theorem dX5_addPart_48 : decode cX5_addPart 48 = .ok (.iconst 0, 1) := by decide +kernel
theorem dX5_addPart_49 : decode cX5_addPart 49 = .ok (.iastore, 1) := by decide +kernel
theorem dX5_addPart_50 : decode cX5_addPart 50 = .ok (.aload_n 0, 1) := by decide +kernel
theorem dX5_addPart_51 : decode cX5_addPart 51 = .ok (.getfield 69, 3) := by decide +kernel
theorem dX5_addPart_54 : decode cX5_addPart 54 = .ok (.aload_n 0, 1) := by decide +kernel
theorem dX5_addPart_55 : decode cX5_addPart 55 = .ok (.getfield 101, 3) := by decide +kernel
theorem dX5_addPart_58 : decode cX5_addPart 58 = .ok (.iconst 1, 1) := by decide +kernel
theorem dX5_addPart_59 : decode cX5_addPart 59 = .ok (.bastore, 1) := by decide +kernel
theorem dX5_addPart_60 : decode cX5_addPart 60 = .ok (.aload_n 0, 1) := by decide +kernel
theorem dX5_addPart_61 : decode cX5_addPart 61 = .ok (.dup, 1) := by decide +kernel
theorem dX5_addPart_62 : decode cX5_addPart 62 = .ok (.getfield 101, 3) := by decide +kernel
theorem dX5_addPart_65 : decode cX5_addPart 65 = .ok (.iconst 1, 1) := by decide +kernel
theorem dX5_addPart_66 : decode cX5_addPart 66 = .ok (.iadd, 1) := by decide +kernel
theorem dX5_addPart_67 : decode cX5_addPart 67 = .ok (.putfield 101, 3) := by decide +kernel
theorem dX5_addPart_70 : decode cX5_addPart 70 = .ok (.return_, 1) := by decide +kernel
set_option maxRecDepth 20000 in
theorem ggX5_job_X5_in : GoodIn wsX5_job wsX5_in := goodIn_r _ [14] (by decide +kernel) (by decide +kernel)
set_option maxRecDepth 20000 in
theorem gX5_job_X5_in : GoodIn wsX5_job (va_wsS RX5 87 yX5_in wsX5_in) := goodIn_app (goodIn_of _ (by decide +kernel)) ggX5_job_X5_in
set_option maxRecDepth 20000 in
theorem ggX5_job_X5_addPart : GoodIn wsX5_job wsX5_addPart := goodIn_r _ [18, 19, 20, 21, 22, 23, 24, 25, 26, 27, 28, 29, 30, 31, 32, 33, 34, 35, 36, 37, 38, 39, 40, 41, 42, 43, 44, 45, 46, 47, 48, 49, 50, 51, 52, 53, 54, 55] (by decide +kernel) (by decide +kernel)
set_option maxRecDepth 20000 in
theorem gX5_job_X5_addPart : GoodIn wsX5_job (wsV RX5 113 RX5 yX5_addPart wsX5_addPart) := goodIn_app (goodIn_of _ (by decide +kernel)) ggX5_job_X5_addPart
theorem dX5_job_0 : decode cX5_job 0 = .ok (.iload_n 2, 1) := by decide +kernel
theorem dX5_job_1 : decode cX5_job 1 = .ok (.i2l, 1) := by decide +kernel
theorem dX5_job_2 : decode cX5_job 2 = .ok (.lconst 1, 1) := by decide +kernel
theorem dX5_job_3 : decode cX5_job 3 = .ok (.ldc2_w 104, 3) := by decide +kernel
theorem dX5_job_6 : decode cX5_job 6 = .ok (.invokestatic 87, 3) := by decide +kernel
theorem dX5_job_9 : decode cX5_job 9 = .ok (.ifCond .eq 39, 3) := by decide +kernel
theorem dX5_job_12 : decode cX5_job 12 = .ok (.iload_n 3, 1) := by decide +kernel
theorem dX5_job_13 : decode cX5_job 13 = .ok (.i2l, 1) := by decide +kernel
theorem dX5_job_14 : decode cX5_job 14 = .ok (.lconst 1, 1) := by decide +kernel
theorem dX5_job_15 : decode cX5_job 15 = .ok (.ldc2_w 106, 3) := by decide +kernel
theorem dX5_job_18 : decode cX5_job 18 = .ok (.invokestatic 87, 3) := by decide +kernel
theorem dX5_job_21 : decode cX5_job 21 = .ok (.ifCond .eq 27, 3) := by decide +kernel
theorem dX5_job_24 : decode cX5_job 24 = .ok (.iload 4, 2) := by decide +kernel
theorem dX5_job_26 : decode cX5_job 26 = .ok (.i2l, 1) := by decide +kernel
theorem dX5_job_27 : decode cX5_job 27 = .ok (.lconst 0, 1) := by decide +kernel
theorem dX5_job_28 : decode cX5_job 28 = .ok (.ldc2_w 108, 3) := by decide +kernel
theorem dX5_job_31 : decode cX5_job 31 = .ok (.invokestatic 87, 3) := by decide +kernel
theorem dX5_job_34 : decode cX5_job 34 = .ok (.ifCond .eq 14, 3) := by decide +kernel
theorem dX5_job_37 : decode cX5_job 37 = .ok (.lload 5, 2) := by decide +kernel
theorem dX5_job_39 : decode cX5_job 39 = .ok (.lconst 0, 1) := by decide +kernel
theorem dX5_job_40 : decode cX5_job 40 = .ok (.lcmp, 1) := by decide +kernel
theorem dX5_job_41 : decode cX5_job 41 = .ok (.ifCond .lt 7, 3) := by decide +kernel
theorem dX5_job_44 : decode cX5_job 44 = .ok (.iconst 1, 1) := by decide +kernel
theorem dX5_job_45 : decode cX5_job 45 = .ok (.goto 4, 3) := by decide +kernel
theorem dX5_job_48 : decode cX5_job 48 = .ok (.iconst 0, 1) := by decide +kernel
theorem dX5_job_49 : decode cX5_job 49 = .ok (.istore 7, 2) := by decide +kernel
theorem dX5_job_51 : decode cX5_job 51 = .ok (.aload_n 0, 1) := by decide +kernel
theorem dX5_job_52 : decode cX5_job 52 = .ok (.iload_n 1, 1) := by decide +kernel
theorem dX5_job_53 : decode cX5_job 53 = .ok (.i2l, 1) := by decide +kernel
theorem dX5_job_54 : decode cX5_job 54 = .ok (.lconst 1, 1) := by decide +kernel
theorem dX5_job_55 : decode cX5_job 55 = .ok (.aload_n 0, 1) := by decide +kernel
theorem dX5_job_56 : decode cX5_job 56 = .ok (.getfield 98, 3) := by decide +kernel
theorem dX5_job_59 : decode cX5_job 59 = .ok (.i2l, 1) := by decide +kernel
theorem dX5_job_60 : decode cX5_job 60 = .ok (.invokestatic 87, 3) := by decide +kernel
theorem dX5_job_63 : decode cX5_job 63 = .ok (.ifCond .ne 7, 3) := by decide +kernel
theorem dX5_job_66 : decode cX5_job 66 = .ok (.iconst 1, 1) := by decide +kernel
theorem dX5_job_67 : decode cX5_job 67 = .ok (.goto 26, 3) := by decide +kernel
theorem dX5_job_70 : decode cX5_job 70 = .ok (.iload 7, 2) := by decide +kernel
theorem dX5_job_72 : decode cX5_job 72 = .ok (.ifCond .ne 7, 3) := by decide +kernel
theorem dX5_job_75 : decode cX5_job 75 = .ok (.iconst 2, 1) := by decide +kernel
theorem dX5_job_76 : decode cX5_job 76 = .ok (.goto 17, 3) := by decide +kernel
theorem dX5_job_79 : decode cX5_job 79 = .ok (.aload_n 0, 1) := by decide +kernel
theorem dX5_job_80 : decode cX5_job 80 = .ok (.getfield 110, 3) := by decide +kernel
theorem dX5_job_83 : decode cX5_job 83 = .ok (.bipush 60, 2) := by decide +kernel
theorem dX5_job_85 : decode cX5_job 85 = .ok (.if_icmp .ne 7, 3) := by decide +kernel
theorem dX5_job_88 : decode cX5_job 88 = .ok (.iconst 3, 1) := by decide +kernel
theorem dX5_job_89 : decode cX5_job 89 = .ok (.goto 4, 3) := by decide +kernel
theorem dX5_job_92 : decode cX5_job 92 = .ok (.iconst 0, 1) := by decide +kernel
theorem dX5_job_93 : decode cX5_job 93 = .ok (.putfield 82, 3) := by decide +kernel
theorem dX5_job_96 : decode cX5_job 96 = .ok (.aload_n 0, 1) := by decide +kernel
theorem dX5_job_97 : decode cX5_job 97 = .ok (.getfield 82, 3) := by decide +kernel
theorem dX5_job_100 : decode cX5_job 100 = .ok (.ifCond .le 5, 3) := by decide +kernel
theorem dX5_job_103 : decode cX5_job 103 = .ok (.iconst 0, 1) := by decide +kernel
theorem dX5_job_104 : decode cX5_job 104 = .ok (.ireturn, 1) := by decide +kernel
theorem dX5_job_105 : decode cX5_job 105 = .ok (.aload_n 0, 1) := by decide +kernel
theorem dX5_job_106 : decode cX5_job 106 = .ok (.dup, 1) := by decide +kernel
theorem dX5_job_107 : decode cX5_job 107 = .ok (.getfield 110, 3) := by decide +kernel
theorem dX5_job_110 : decode cX5_job 110 = .ok (.iconst 1, 1) := by decide +kernel
theorem dX5_job_111 : decode cX5_job 111 = .ok (.iadd, 1) := by decide +kernel
theorem dX5_job_112 : decode cX5_job 112 = .ok (.putfield 110, 3) := by decide +kernel
theorem dX5_job_115 : decode cX5_job 115 = .ok (.aload_n 0, 1) := by decide +kernel
theorem dX5_job_116 : decode cX5_job 116 = .ok (.getfield 32, 3) := by decide +kernel
theorem dX5_job_119 : decode cX5_job 119 = .ok (.aload_n 0, 1) := by decide +kernel
theorem dX5_job_120 : decode cX5_job 120 = .ok (.getfield 110, 3) := by decide +kernel
theorem dX5_job_123 : decode cX5_job 123 = .ok (.iload_n 1, 1) := by decide +kernel
theorem dX5_job_124 : decode cX5_job 124 = .ok (.iastore, 1) := by decide +kernel
theorem dX5_job_125 : decode cX5_job 125 = .ok (.aload_n 0, 1) := by decide +kernel
theorem dX5_job_126 : decode cX5_job 126 = .ok (.getfield 35, 3) := by decide +kernel
theorem dX5_job_129 : decode cX5_job 129 = .ok (.aload_n 0, 1) := by decide +kernel
theorem dX5_job_130 : decode cX5_job 130 = .ok (.getfield 110, 3) := by decide +kernel
theorem dX5_job_133 : decode cX5_job 133 = .ok (.iload_n 2, 1) := by decide +kernel
theorem dX5_job_134 : decode cX5_job 134 = .ok (.iastore, 1) := by decide +kernel
theorem dX5_job_135 : decode cX5_job 135 = .ok (.aload_n 0, 1) := by decide +kernel
theorem dX5_job_136 : decode cX5_job 136 = .ok (.getfield 38, 3) := by decide +kernel
theorem dX5_job_139 : decode cX5_job 139 = .ok (.aload_n 0, 1) := by decide +kernel
theorem dX5_job_140 : decode cX5_job 140 = .ok (.getfield 110, 3) := by decide +kernel
theorem dX5_job_143 : decode cX5_job 143 = .ok (.iload 4, 2) := by decide +kernel
theorem dX5_job_145 : decode cX5_job 145 = .ok (.iastore, 1) := by decide +kernel
theorem dX5_job_146 : decode cX5_job 146 = .ok (.aload_n 0, 1) := by decide +kernel
theorem dX5_job_147 : decode cX5_job 147 = .ok (.getfield 41, 3) := by decide +kernel
theorem dX5_job_150 : decode cX5_job 150 = .ok (.aload_n 0, 1) := by decide +kernel
theorem dX5_job_151 : decode cX5_job 151 = .ok (.getfield 110, 3) := by decide +kernel
theorem dX5_job_154 : decode cX5_job 154 = .ok (.lload 5, 2) := by decide +kernel
theorem dX5_job_156 : decode cX5_job 156 = .ok (.lastore, 1) := by decide +kernel
theorem dX5_job_157 : decode cX5_job 157 = .ok (.aload_n 0, 1) := by decide +kernel
theorem dX5_job_158 : decode cX5_job 158 = .ok (.aload_n 0, 1) := by decide +kernel
theorem dX5_job_159 : decode cX5_job 159 = .ok (.getfield 110, 3) := by decide +kernel
theorem dX5_job_162 : decode cX5_job 162 = .ok (.iload_n 3, 1) := by decide +kernel
theorem dX5_job_163 : decode cX5_job 163 = .ok (.iconst 0, 1) := by decide +kernel
theorem dX5_job_164 : decode cX5_job 164 = .ok (.invokevirtual 113, 3) := by decide +kernel
theorem dX5_job_167 : decode cX5_job 167 = .ok (.aload_n 0, 1) := by decide +kernel
theorem dX5_job_168 : decode cX5_job 168 = .ok (.getfield 110, 3) := by decide +kernel
theorem dX5_job_171 : decode cX5_job 171 = .ok (.ireturn, 1) := by decide +kernel
set_option maxRecDepth 20000 in
theorem ggX5_isPrinter_X5_in : GoodIn wsX5_isPrinter wsX5_in := goodIn_r _ [5] (by decide +kernel) (by decide +kernel)
set_option maxRecDepth 20000 in
theorem gX5_isPrinter_X5_in : GoodIn wsX5_isPrinter (va_wsS RX5 87 yX5_in wsX5_in) := goodIn_app (goodIn_of _ (by decide +kernel)) ggX5_isPrinter_X5_in
theorem dX5_isPrinter_0 : decode cX5_isPrinter 0 = .ok (.iload_n 1, 1) := by decide +kernel
theorem dX5_isPrinter_1 : decode cX5_isPrinter 1 = .ok (.i2l, 1) := by decide +kernel
theorem dX5_isPrinter_2 : decode cX5_isPrinter 2 = .ok (.lconst 1, 1) := by decide +kernel
theorem dX5_isPrinter_3 : decode cX5_isPrinter 3 = .ok (.aload_n 0, 1) := by decide +kernel
theorem dX5_isPrinter_4 : decode cX5_isPrinter 4 = .ok (.getfield 93, 3) := by decide +kernel
theorem dX5_isPrinter_7 : decode cX5_isPrinter 7 = .ok (.i2l, 1) := by decide +kernel
theorem dX5_isPrinter_8 : decode cX5_isPrinter 8 = .ok (.invokestatic 87, 3) := by decide +kernel
theorem dX5_isPrinter_11 : decode cX5_isPrinter 11 = .ok (.ireturn, 1) := by decide +kernel
set_option maxRecDepth 20000 in
theorem ggX5_isJob_X5_in : GoodIn wsX5_isJob wsX5_in := goodIn_r _ [5] (by decide +kernel) (by decide +kernel)
set_option maxRecDepth 20000 in
theorem gX5_isJob_X5_in : GoodIn wsX5_isJob (va_wsS RX5 87 yX5_in wsX5_in) := goodIn_app (goodIn_of _ (by decide +kernel)) ggX5_isJob_X5_in
theorem dX5_isJob_0 : decode cX5_isJob 0 = .ok (.iload_n 1, 1) := by decide +kernel
theorem dX5_isJob_1 : decode cX5_isJob 1 = .ok (.i2l, 1) := by decide +kernel
theorem dX5_isJob_2 : decode cX5_isJob 2 = .ok (.lconst 1, 1) := by decide +kernel
theorem dX5_isJob_3 : decode cX5_isJob 3 = .ok (.aload_n 0, 1) := by decide +kernel
theorem dX5_isJob_4 : decode cX5_isJob 4 = .ok (.getfield 110, 3) := by decide +kernel
theorem dX5_isJob_7 : decode cX5_isJob 7 = .ok (.i2l, 1) := by decide +kernel
theorem dX5_isJob_8 : decode cX5_isJob 8 = .ok (.invokestatic 87, 3) := by decide +kernel
theorem dX5_isJob_11 : decode cX5_isJob 11 = .ok (.ireturn, 1) := by decide +kernel
theorem dX5_fits_0 : decode cX5_fits 0 = .ok (.aload_n 0, 1) := by decide +kernel
theorem dX5_fits_1 : decode cX5_fits 1 = .ok (.getfield 25, 3) := by decide +kernel
theorem dX5_fits_4 : decode cX5_fits 4 = .ok (.aload_n 0, 1) := by decide +kernel
theorem dX5_fits_5 : decode cX5_fits 5 = .ok (.getfield 32, 3) := by decide +kernel
theorem dX5_fits_8 : decode cX5_fits 8 = .ok (.aload_n 0, 1) := by decide +kernel
theorem dX5_fits_9 : decode cX5_fits 9 = .ok (.getfield 51, 3) := by decide +kernel
theorem dX5_fits_12 : decode cX5_fits 12 = .ok (.iload_n 1, 1) := by decide +kernel
theorem dX5_fits_13 : decode cX5_fits 13 = .ok (.iaload, 1) := by decide +kernel
theorem dX5_fits_14 : decode cX5_fits 14 = .ok (.iaload, 1) := by decide +kernel
theorem dX5_fits_15 : decode cX5_fits 15 = .ok (.iaload, 1) := by decide +kernel
theorem dX5_fits_16 : decode cX5_fits 16 = .ok (.aload_n 0, 1) := by decide +kernel
theorem dX5_fits_17 : decode cX5_fits 17 = .ok (.getfield 13, 3) := by decide +kernel
theorem dX5_fits_20 : decode cX5_fits 20 = .ok (.iload_n 2, 1) := by decide +kernel
theorem dX5_fits_21 : decode cX5_fits 21 = .ok (.iaload, 1) := by decide +kernel
theorem dX5_fits_22 : decode cX5_fits 22 = .ok (.if_icmp .gt 26, 3) := by decide +kernel
theorem dX5_fits_25 : decode cX5_fits 25 = .ok (.aload_n 0, 1) := by decide +kernel
theorem dX5_fits_26 : decode cX5_fits 26 = .ok (.getfield 57, 3) := by decide +kernel
theorem dX5_fits_29 : decode cX5_fits 29 = .ok (.iload_n 1, 1) := by decide +kernel
theorem dX5_fits_30 : decode cX5_fits 30 = .ok (.iaload, 1) := by decide +kernel
theorem dX5_fits_31 : decode cX5_fits 31 = .ok (.ifCond .eq 13, 3) := by decide +kernel
theorem dX5_fits_34 : decode cX5_fits 34 = .ok (.aload_n 0, 1) := by decide +kernel
theorem dX5_fits_35 : decode cX5_fits 35 = .ok (.getfield 57, 3) := by decide +kernel
theorem dX5_fits_38 : decode cX5_fits 38 = .ok (.iload_n 1, 1) := by decide +kernel
theorem dX5_fits_39 : decode cX5_fits 39 = .ok (.iaload, 1) := by decide +kernel
theorem dX5_fits_40 : decode cX5_fits 40 = .ok (.iload_n 2, 1) := by decide +kernel
theorem dX5_fits_41 : decode cX5_fits 41 = .ok (.if_icmp .ne 7, 3) := by decide +kernel
theorem dX5_fits_44 : decode cX5_fits 44 = .ok (.iconst 1, 1) := by decide +kernel
theorem dX5_fits_45 : decode cX5_fits 45 = .ok (.goto 4, 3) := by decide +kernel
theorem dX5_fits_48 : decode cX5_fits 48 = .ok (.iconst 0, 1) := by decide +kernel
theorem dX5_fits_49 : decode cX5_fits 49 = .ok (.ireturn, 1) := by decide +kernel
set_option maxRecDepth 20000 in
theorem ggX5_mayTake_X5_fits : GoodIn wsX5_mayTake wsX5_fits := goodIn_r _ [10, 11, 12, 1, 13, 14, 15, 16, 17, 18, 19, 20, 21, 22, 23, 24, 25, 26, 27, 28, 29, 30, 31, 32, 33, 34, 35, 36, 37, 38, 39, 40, 41, 42, 43, 44] (by decide +kernel) (by decide +kernel)
set_option maxRecDepth 20000 in
theorem gX5_mayTake_X5_fits : GoodIn wsX5_mayTake (wsV RX5 121 RX5 yX5_fits wsX5_fits) := goodIn_app (goodIn_of _ (by decide +kernel)) ggX5_mayTake_X5_fits
theorem dX5_mayTake_0 : decode cX5_mayTake 0 = .ok (.aload_n 0, 1) := by decide +kernel
theorem dX5_mayTake_1 : decode cX5_mayTake 1 = .ok (.getfield 51, 3) := by decide +kernel
theorem dX5_mayTake_4 : decode cX5_mayTake 4 = .ok (.iload_n 1, 1) := by decide +kernel
theorem dX5_mayTake_5 : decode cX5_mayTake 5 = .ok (.iaload, 1) := by decide +kernel
theorem dX5_mayTake_6 : decode cX5_mayTake 6 = .ok (.istore_n 3, 1) := by decide +kernel
theorem dX5_mayTake_7 : decode cX5_mayTake 7 = .ok (.aload_n 0, 1) := by decide +kernel
theorem dX5_mayTake_8 : decode cX5_mayTake 8 = .ok (.getfield 69, 3) := by decide +kernel
theorem dX5_mayTake_11 : decode cX5_mayTake 11 = .ok (.iload_n 1, 1) := by decide +kernel
theorem dX5_mayTake_12 : decode cX5_mayTake 12 = .ok (.baload, 1) := by decide +kernel
theorem dX5_mayTake_13 : decode cX5_mayTake 13 = .ok (.ifCond .eq 39, 3) := by decide +kernel
theorem dX5_mayTake_16 : decode cX5_mayTake 16 = .ok (.aload_n 0, 1) := by decide +kernel
theorem dX5_mayTake_17 : decode cX5_mayTake 17 = .ok (.getfield 44, 3) := by decide +kernel
theorem dX5_mayTake_20 : decode cX5_mayTake 20 = .ok (.iload_n 3, 1) := by decide +kernel
theorem dX5_mayTake_21 : decode cX5_mayTake 21 = .ok (.baload, 1) := by decide +kernel
theorem dX5_mayTake_22 : decode cX5_mayTake 22 = .ok (.ifCond .ne 30, 3) := by decide +kernel
theorem dX5_mayTake_25 : decode cX5_mayTake 25 = .ok (.aload_n 0, 1) := by decide +kernel
theorem dX5_mayTake_26 : decode cX5_mayTake 26 = .ok (.getfield 41, 3) := by decide +kernel
theorem dX5_mayTake_29 : decode cX5_mayTake 29 = .ok (.iload_n 3, 1) := by decide +kernel
theorem dX5_mayTake_30 : decode cX5_mayTake 30 = .ok (.laload, 1) := by decide +kernel
theorem dX5_mayTake_31 : decode cX5_mayTake 31 = .ok (.aload_n 0, 1) := by decide +kernel
theorem dX5_mayTake_32 : decode cX5_mayTake 32 = .ok (.getfield 117, 3) := by decide +kernel
theorem dX5_mayTake_35 : decode cX5_mayTake 35 = .ok (.lcmp, 1) := by decide +kernel
theorem dX5_mayTake_36 : decode cX5_mayTake 36 = .ok (.ifCond .gt 16, 3) := by decide +kernel
theorem dX5_mayTake_39 : decode cX5_mayTake 39 = .ok (.aload_n 0, 1) := by decide +kernel
theorem dX5_mayTake_40 : decode cX5_mayTake 40 = .ok (.iload_n 1, 1) := by decide +kernel
theorem dX5_mayTake_41 : decode cX5_mayTake 41 = .ok (.iload_n 2, 1) := by decide +kernel
theorem dX5_mayTake_42 : decode cX5_mayTake 42 = .ok (.invokevirtual 121, 3) := by decide +kernel
theorem dX5_mayTake_45 : decode cX5_mayTake 45 = .ok (.ifCond .eq 7, 3) := by decide +kernel
theorem dX5_mayTake_48 : decode cX5_mayTake 48 = .ok (.iconst 1, 1) := by decide +kernel
theorem dX5_mayTake_49 : decode cX5_mayTake 49 = .ok (.goto 4, 3) := by decide +kernel
theorem dX5_mayTake_52 : decode cX5_mayTake 52 = .ok (.iconst 0, 1) := by decide +kernel
theorem dX5_mayTake_53 : decode cX5_mayTake 53 = .ok (.ireturn, 1) := by decide +kernel
set_option maxRecDepth 20000 in
theorem ggX5_bestRank_X5_mayTake : GoodIn wsX5_bestRank wsX5_mayTake := goodIn_r _ [8, 3, 9, 10, 11, 12, 13, 14, 15, 7, 16, 17, 18, 19, 20, 21, 22, 23, 24, 25, 26, 27, 28, 29, 30, 31, 32, 33, 34, 35, 36, 37, 38, 39, 40, 41, 42, 43, 44, 45, 46, 47, 48, 49, 50] (by decide +kernel) (by decide +kernel)
set_option maxRecDepth 20000 in
theorem gX5_bestRank_X5_mayTake : GoodIn wsX5_bestRank (wsV RX5 125 RX5 yX5_mayTake wsX5_mayTake) := goodIn_app (goodIn_of _ (by decide +kernel)) ggX5_bestRank_X5_mayTake
theorem dX5_bestRank_0 : decode cX5_bestRank 0 = .ok (.iconst (-1), 1) := by decide +kernel
theorem dX5_bestRank_1 : decode cX5_bestRank 1 = .ok (.istore_n 2, 1) := by decide +kernel
theorem dX5_bestRank_2 : decode cX5_bestRank 2 = .ok (.iconst 0, 1) := by decide +kernel
theorem dX5_bestRank_3 : decode cX5_bestRank 3 = .ok (.istore_n 3, 1) := by decide +kernel
theorem dX5_bestRank_4 : decode cX5_bestRank 4 = .ok (.iload_n 3, 1) := by decide +kernel
theorem dX5_bestRank_5 : decode cX5_bestRank 5 = .ok (.aload_n 0, 1) := by decide +kernel
theorem dX5_bestRank_6 : decode cX5_bestRank 6 = .ok (.getfield 101, 3) := by decide +kernel
theorem dX5_bestRank_9 : decode cX5_bestRank 9 = .ok (.if_icmp .ge 49, 3) := by decide +kernel
theorem dX5_bestRank_12 : decode cX5_bestRank 12 = .ok (.aload_n 0, 1) := by decide +kernel
theorem dX5_bestRank_13 : decode cX5_bestRank 13 = .ok (.iload_n 3, 1) := by decide +kernel
theorem dX5_bestRank_14 : decode cX5_bestRank 14 = .ok (.iload_n 1, 1) := by decide +kernel
theorem dX5_bestRank_15 : decode cX5_bestRank 15 = .ok (.invokevirtual 125, 3) := by decide +kernel
theorem dX5_bestRank_18 : decode cX5_bestRank 18 = .ok (.ifCond .eq 32, 3) := by decide +kernel
theorem dX5_bestRank_21 : decode cX5_bestRank 21 = .ok (.aload_n 0, 1) := by decide +kernel
theorem dX5_bestRank_22 : decode cX5_bestRank 22 = .ok (.getfield 38, 3) := by decide +kernel
theorem dX5_bestRank_25 : decode cX5_bestRank 25 = .ok (.aload_n 0, 1) := by decide +kernel
theorem dX5_bestRank_26 : decode cX5_bestRank 26 = .ok (.getfield 51, 3) := by decide +kernel
theorem dX5_bestRank_29 : decode cX5_bestRank 29 = .ok (.iload_n 3, 1) := by decide +kernel
theorem dX5_bestRank_30 : decode cX5_bestRank 30 = .ok (.iaload, 1) := by decide +kernel
theorem dX5_bestRank_31 : decode cX5_bestRank 31 = .ok (.iaload, 1) := by decide +kernel
theorem dX5_bestRank_32 : decode cX5_bestRank 32 = .ok (.iload_n 2, 1) := by decide +kernel
theorem dX5_bestRank_33 : decode cX5_bestRank 33 = .ok (.if_icmp .le 17, 3) := by decide +kernel
theorem dX5_bestRank_36 : decode cX5_bestRank 36 = .ok (.aload_n 0, 1) := by decide +kernel
theorem dX5_bestRank_37 : decode cX5_bestRank 37 = .ok (.getfield 38, 3) := by decide +kernel
theorem dX5_bestRank_40 : decode cX5_bestRank 40 = .ok (.aload_n 0, 1) := by decide +kernel
theorem dX5_bestRank_41 : decode cX5_bestRank 41 = .ok (.getfield 51, 3) := by decide +kernel
theorem dX5_bestRank_44 : decode cX5_bestRank 44 = .ok (.iload_n 3, 1) := by decide +kernel
theorem dX5_bestRank_45 : decode cX5_bestRank 45 = .ok (.iaload, 1) := by decide +kernel
theorem dX5_bestRank_46 : decode cX5_bestRank 46 = .ok (.iaload, 1) := by decide +kernel
theorem dX5_bestRank_47 : decode cX5_bestRank 47 = .ok (.goto 4, 3) := by decide +kernel
theorem dX5_bestRank_50 : decode cX5_bestRank 50 = .ok (.iload_n 2, 1) := by decide +kernel
theorem dX5_bestRank_51 : decode cX5_bestRank 51 = .ok (.istore_n 2, 1) := by decide +kernel
theorem dX5_bestRank_52 : decode cX5_bestRank 52 = .ok (.iinc 3 1, 3) := by decide +kernel
theorem dX5_bestRank_55 : decode cX5_bestRank 55 = .ok (.goto (-51), 3) := by decide +kernel
theorem dX5_bestRank_58 : decode cX5_bestRank 58 = .ok (.iload_n 2, 1) := by decide +kernel
theorem dX5_bestRank_59 : decode cX5_bestRank 59 = .ok (.ireturn, 1) := by decide +kernel
theorem dX5_mediaOf_0 : decode cX5_mediaOf 0 = .ok (.aload_n 0, 1) := by decide +kernel
theorem dX5_mediaOf_1 : decode cX5_mediaOf 1 = .ok (.getfield 22, 3) := by decide +kernel
theorem dX5_mediaOf_4 : decode cX5_mediaOf 4 = .ok (.aload_n 0, 1) := by decide +kernel
theorem dX5_mediaOf_5 : decode cX5_mediaOf 5 = .ok (.getfield 32, 3) := by decide +kernel
theorem dX5_mediaOf_8 : decode cX5_mediaOf 8 = .ok (.aload_n 0, 1) := by decide +kernel
theorem dX5_mediaOf_9 : decode cX5_mediaOf 9 = .ok (.getfield 51, 3) := by decide +kernel
theorem dX5_mediaOf_12 : decode cX5_mediaOf 12 = .ok (.iload_n 1, 1) := by decide +kernel
theorem dX5_mediaOf_13 : decode cX5_mediaOf 13 = .ok (.iaload, 1) := by decide +kernel
theorem dX5_mediaOf_14 : decode cX5_mediaOf 14 = .ok (.iaload, 1) := by decide +kernel
theorem dX5_mediaOf_15 : decode cX5_mediaOf 15 = .ok (.iaload, 1) := by decide +kernel
theorem dX5_mediaOf_16 : decode cX5_mediaOf 16 = .ok (.ireturn, 1) := by decide +kernel
set_option maxRecDepth 20000 in
theorem ggX5_firstOf_X5_mayTake : GoodIn wsX5_firstOf wsX5_mayTake := goodIn_r _ [10, 3, 11, 12, 5, 13, 14, 15, 16, 9, 17, 18, 19, 20, 21, 27, 28, 29, 30, 31, 32, 33, 34, 35, 36, 37, 38, 39, 40, 41, 42, 43, 44, 45, 46, 47, 48, 49, 50, 51, 52, 53, 54, 55, 56] (by decide +kernel) (by decide +kernel)
set_option maxRecDepth 20000 in
theorem gX5_firstOf_X5_mayTake : GoodIn wsX5_firstOf (wsV RX5 125 RX5 yX5_mayTake wsX5_mayTake) := goodIn_app (goodIn_of _ (by decide +kernel)) ggX5_firstOf_X5_mayTake
set_option maxRecDepth 20000 in
theorem ggX5_firstOf_X5_mediaOf : GoodIn wsX5_firstOf wsX5_mediaOf := goodIn_r _ [25, 26, 19, 3, 27, 28, 29, 30, 31, 32, 33, 34, 35, 36, 37, 38, 39, 40, 41, 42, 43, 44, 45, 46, 47, 48, 49, 50, 51, 52, 53, 54, 55, 56] (by decide +kernel) (by decide +kernel)
set_option maxRecDepth 20000 in
theorem gX5_firstOf_X5_mediaOf : GoodIn wsX5_firstOf (wsV RX5 128 RX5 yX5_mediaOf wsX5_mediaOf) := goodIn_app (goodIn_of _ (by decide +kernel)) ggX5_firstOf_X5_mediaOf
theorem dX5_firstOf_0 : decode cX5_firstOf 0 = .ok (.iconst (-1), 1) := by decide +kernel
theorem dX5_firstOf_1 : decode cX5_firstOf 1 = .ok (.istore 4, 2) := by decide +kernel
theorem dX5_firstOf_3 : decode cX5_firstOf 3 = .ok (.iconst 0, 1) := by decide +kernel
theorem dX5_firstOf_4 : decode cX5_firstOf 4 = .ok (.istore 5, 2) := by decide +kernel
theorem dX5_firstOf_6 : decode cX5_firstOf 6 = .ok (.iload 5, 2) := by decide +kernel
theorem dX5_firstOf_8 : decode cX5_firstOf 8 = .ok (.aload_n 0, 1) := by decide +kernel
theorem dX5_firstOf_9 : decode cX5_firstOf 9 = .ok (.getfield 101, 3) := by decide +kernel
theorem dX5_firstOf_12 : decode cX5_firstOf 12 = .ok (.if_icmp .ge 148, 3) := by decide +kernel
theorem dX5_firstOf_15 : decode cX5_firstOf 15 = .ok (.aload_n 0, 1) := by decide +kernel
theorem dX5_firstOf_16 : decode cX5_firstOf 16 = .ok (.iload 5, 2) := by decide +kernel
theorem dX5_firstOf_18 : decode cX5_firstOf 18 = .ok (.iload_n 1, 1) := by decide +kernel
theorem dX5_firstOf_19 : decode cX5_firstOf 19 = .ok (.invokevirtual 125, 3) := by decide +kernel
theorem dX5_firstOf_22 : decode cX5_firstOf 22 = .ok (.ifCond .eq 132, 3) := by decide +kernel
theorem dX5_firstOf_25 : decode cX5_firstOf 25 = .ok (.aload_n 0, 1) := by decide +kernel
theorem dX5_firstOf_26 : decode cX5_firstOf 26 = .ok (.getfield 38, 3) := by decide +kernel
theorem dX5_firstOf_29 : decode cX5_firstOf 29 = .ok (.aload_n 0, 1) := by decide +kernel
theorem dX5_firstOf_30 : decode cX5_firstOf 30 = .ok (.getfield 51, 3) := by decide +kernel
theorem dX5_firstOf_33 : decode cX5_firstOf 33 = .ok (.iload 5, 2) := by decide +kernel
theorem dX5_firstOf_35 : decode cX5_firstOf 35 = .ok (.iaload, 1) := by decide +kernel
theorem dX5_firstOf_36 : decode cX5_firstOf 36 = .ok (.iaload, 1) := by decide +kernel
theorem dX5_firstOf_37 : decode cX5_firstOf 37 = .ok (.iload_n 2, 1) := by decide +kernel
theorem dX5_firstOf_38 : decode cX5_firstOf 38 = .ok (.if_icmp .ne 116, 3) := by decide +kernel
theorem dX5_firstOf_41 : decode cX5_firstOf 41 = .ok (.iload_n 3, 1) := by decide +kernel
theorem dX5_firstOf_42 : decode cX5_firstOf 42 = .ok (.ifCond .eq 18, 3) := by decide +kernel
theorem dX5_firstOf_45 : decode cX5_firstOf 45 = .ok (.aload_n 0, 1) := by decide +kernel
theorem dX5_firstOf_46 : decode cX5_firstOf 46 = .ok (.iload 5, 2) := by decide +kernel
theorem dX5_firstOf_48 : decode cX5_firstOf 48 = .ok (.invokevirtual 128, 3) := by decide +kernel
theorem dX5_firstOf_51 : decode cX5_firstOf 51 = .ok (.aload_n 0, 1) := by decide +kernel
theorem dX5_firstOf_52 : decode cX5_firstOf 52 = .ok (.getfield 7, 3) := by decide +kernel
theorem dX5_firstOf_55 : decode cX5_firstOf 55 = .ok (.iload_n 1, 1) := by decide +kernel
theorem dX5_firstOf_56 : decode cX5_firstOf 56 = .ok (.iaload, 1) := by decide +kernel
theorem dX5_firstOf_57 : decode cX5_firstOf 57 = .ok (.if_icmp .ne 97, 3) := by decide +kernel
theorem dX5_firstOf_60 : decode cX5_firstOf 60 = .ok (.aload_n 0, 1) := by decide +kernel
theorem dX5_firstOf_61 : decode cX5_firstOf 61 = .ok (.getfield 51, 3) := by decide +kernel
theorem dX5_firstOf_64 : decode cX5_firstOf 64 = .ok (.iload 5, 2) := by decide +kernel
theorem dX5_firstOf_66 : decode cX5_firstOf 66 = .ok (.iaload, 1) := by decide +kernel
theorem dX5_firstOf_67 : decode cX5_firstOf 67 = .ok (.istore 6, 2) := by decide +kernel
theorem dX5_firstOf_69 : decode cX5_firstOf 69 = .ok (.iload 4, 2) := by decide +kernel
theorem dX5_firstOf_71 : decode cX5_firstOf 71 = .ok (.iconst (-1), 1) := by decide +kernel
theorem dX5_firstOf_72 : decode cX5_firstOf 72 = .ok (.if_icmp .eq 61, 3) := by decide +kernel
theorem dX5_firstOf_75 : decode cX5_firstOf 75 = .ok (.aload_n 0, 1) := by decide +kernel
theorem dX5_firstOf_76 : decode cX5_firstOf 76 = .ok (.getfield 41, 3) := by decide +kernel
theorem dX5_firstOf_79 : decode cX5_firstOf 79 = .ok (.iload 6, 2) := by decide +kernel
theorem dX5_firstOf_81 : decode cX5_firstOf 81 = .ok (.laload, 1) := by decide +kernel
theorem dX5_firstOf_82 : decode cX5_firstOf 82 = .ok (.aload_n 0, 1) := by decide +kernel
theorem dX5_firstOf_83 : decode cX5_firstOf 83 = .ok (.getfield 41, 3) := by decide +kernel
theorem dX5_firstOf_86 : decode cX5_firstOf 86 = .ok (.aload_n 0, 1) := by decide +kernel
theorem dX5_firstOf_87 : decode cX5_firstOf 87 = .ok (.getfield 51, 3) := by decide +kernel
theorem dX5_firstOf_90 : decode cX5_firstOf 90 = .ok (.iload 4, 2) := by decide +kernel
theorem dX5_firstOf_92 : decode cX5_firstOf 92 = .ok (.iaload, 1) := by decide +kernel
theorem dX5_firstOf_93 : decode cX5_firstOf 93 = .ok (.laload, 1) := by decide +kernel
theorem dX5_firstOf_94 : decode cX5_firstOf 94 = .ok (.lcmp, 1) := by decide +kernel
theorem dX5_firstOf_95 : decode cX5_firstOf 95 = .ok (.ifCond .lt 38, 3) := by decide +kernel
theorem dX5_firstOf_98 : decode cX5_firstOf 98 = .ok (.aload_n 0, 1) := by decide +kernel
theorem dX5_firstOf_99 : decode cX5_firstOf 99 = .ok (.getfield 41, 3) := by decide +kernel
theorem dX5_firstOf_102 : decode cX5_firstOf 102 = .ok (.iload 6, 2) := by decide +kernel
theorem dX5_firstOf_104 : decode cX5_firstOf 104 = .ok (.laload, 1) := by decide +kernel
theorem dX5_firstOf_105 : decode cX5_firstOf 105 = .ok (.aload_n 0, 1) := by decide +kernel
theorem dX5_firstOf_106 : decode cX5_firstOf 106 = .ok (.getfield 41, 3) := by decide +kernel
theorem dX5_firstOf_109 : decode cX5_firstOf 109 = .ok (.aload_n 0, 1) := by decide +kernel
theorem dX5_firstOf_110 : decode cX5_firstOf 110 = .ok (.getfield 51, 3) := by decide +kernel
theorem dX5_firstOf_113 : decode cX5_firstOf 113 = .ok (.iload 4, 2) := by decide +kernel
theorem dX5_firstOf_115 : decode cX5_firstOf 115 = .ok (.iaload, 1) := by decide +kernel
theorem dX5_firstOf_116 : decode cX5_firstOf 116 = .ok (.laload, 1) := by decide +kernel
theorem dX5_firstOf_117 : decode cX5_firstOf 117 = .ok (.lcmp, 1) := by decide +kernel
theorem dX5_firstOf_118 : decode cX5_firstOf 118 = .ok (.ifCond .ne 19, 3) := by decide +kernel
theorem dX5_firstOf_121 : decode cX5_firstOf 121 = .ok (.iload 6, 2) := by decide +kernel
theorem dX5_firstOf_123 : decode cX5_firstOf 123 = .ok (.aload_n 0, 1) := by decide +kernel
theorem dX5_firstOf_124 : decode cX5_firstOf 124 = .ok (.getfield 51, 3) := by decide +kernel
theorem dX5_firstOf_127 : decode cX5_firstOf 127 = .ok (.iload 4, 2) := by decide +kernel
theorem dX5_firstOf_129 : decode cX5_firstOf 129 = .ok (.iaload, 1) := by decide +kernel
theorem dX5_firstOf_130 : decode cX5_firstOf 130 = .ok (.if_icmp .ge 7, 3) := by decide +kernel
theorem dX5_firstOf_133 : decode cX5_firstOf 133 = .ok (.iconst 1, 1) := by decide +kernel
theorem dX5_firstOf_134 : decode cX5_firstOf 134 = .ok (.goto 4, 3) := by decide +kernel
theorem dX5_firstOf_137 : decode cX5_firstOf 137 = .ok (.iconst 0, 1) := by decide +kernel
theorem dX5_firstOf_138 : decode cX5_firstOf 138 = .ok (.istore 7, 2) := by decide +kernel
theorem dX5_firstOf_140 : decode cX5_firstOf 140 = .ok (.iload 7, 2) := by decide +kernel
theorem dX5_firstOf_142 : decode cX5_firstOf 142 = .ok (.ifCond .eq 8, 3) := by decide +kernel
theorem dX5_firstOf_145 : decode cX5_firstOf 145 = .ok (.iload 5, 2) := by decide +kernel
theorem dX5_firstOf_147 : decode cX5_firstOf 147 = .ok (.goto 5, 3) := by decide +kernel
theorem dX5_firstOf_150 : decode cX5_firstOf 150 = .ok (.iload 4, 2) := by decide +kernel
theorem dX5_firstOf_152 : decode cX5_firstOf 152 = .ok (.istore 4, 2) := by decide +kernel
theorem dX5_firstOf_154 : decode cX5_firstOf 154 = .ok (.iinc 5 1, 3) := by decide +kernel
theorem dX5_firstOf_157 : decode cX5_firstOf 157 = .ok (.goto (-151), 3) := by decide +kernel
theorem dX5_firstOf_160 : decode cX5_firstOf 160 = .ok (.iload 4, 2) := by decide +kernel
theorem dX5_firstOf_162 : decode cX5_firstOf 162 = .ok (.ireturn, 1) := by decide +kernel
set_option maxRecDepth 20000 in
theorem ggX5_take_X5_isPrinter : GoodIn wsX5_take wsX5_isPrinter := goodIn_r _ [17, 18, 19, 20, 16, 21, 50, 51, 52, 53, 54, 55, 56, 57, 58, 59, 60, 61, 62, 63, 64, 65, 66, 67, 68, 69, 70, 71, 72, 73, 74, 75, 76, 77, 78, 79] (by decide +kernel) (by decide +kernel)
set_option maxRecDepth 20000 in
theorem gX5_take_X5_isPrinter : GoodIn wsX5_take (wsV RX5 132 RX5 yX5_isPrinter wsX5_isPrinter) := goodIn_app (goodIn_of _ (by decide +kernel)) ggX5_take_X5_isPrinter
set_option maxRecDepth 20000 in
theorem ggX5_take_X5_bestRank : GoodIn wsX5_take wsX5_bestRank := goodIn_r _ [25, 26, 27, 12, 28, 29, 30, 16, 31, 6, 32, 33, 1, 34, 35, 36, 37, 38, 11, 39, 40, 50, 51, 52, 53, 54, 55, 56, 57, 58, 59, 60, 61, 62, 63, 64, 65, 66, 67, 68, 69, 70, 71, 72, 73, 74, 75, 76, 77, 78, 79] (by decide +kernel) (by decide +kernel)
set_option maxRecDepth 20000 in
theorem gX5_take_X5_bestRank : GoodIn wsX5_take (wsV RX5 136 RX5 yX5_bestRank wsX5_bestRank) := goodIn_app (goodIn_of _ (by decide +kernel)) ggX5_take_X5_bestRank
set_option maxRecDepth 20000 in
theorem ggX5_take_X5_firstOf : GoodIn wsX5_take wsX5_firstOf := goodIn_r _ [44, 26, 27, 12, 9, 33, 28, 29, 30, 16, 31, 6, 32, 1, 34, 35, 36, 37, 38, 11, 39, 40, 45, 46, 47, 48, 49, 50, 51, 52, 53, 54, 55, 56, 57, 58, 59, 60, 61, 62, 63, 64, 65, 66, 67, 68, 69, 70, 71, 72, 73, 74, 75, 76, 77, 78, 79] (by decide +kernel) (by decide +kernel)
set_option maxRecDepth 20000 in
theorem gX5_take_X5_firstOf : GoodIn wsX5_take (wsV RX5 139 RX5 yX5_firstOf wsX5_firstOf) := goodIn_app (goodIn_of _ (by decide +kernel)) ggX5_take_X5_firstOf
set_option maxRecDepth 20000 in
theorem ggX5_take_X5_mediaOf : GoodIn wsX5_take wsX5_mediaOf := goodIn_r _ [48, 49, 11, 12, 50, 51, 52, 53, 54, 55, 56, 57, 58, 59, 60, 61, 62, 63, 64, 65, 66, 67, 68, 69, 70, 71, 72, 73, 74, 75, 76, 77, 78, 79] (by decide +kernel) (by decide +kernel)
set_option maxRecDepth 20000 in
theorem gX5_take_X5_mediaOf : GoodIn wsX5_take (wsV RX5 128 RX5 yX5_mediaOf wsX5_mediaOf) := goodIn_app (goodIn_of _ (by decide +kernel)) ggX5_take_X5_mediaOf
theorem dX5_take_0 : decode cX5_take 0 = .ok (.aload_n 0, 1) := by decide +kernel
theorem dX5_take_1 : decode cX5_take 1 = .ok (.aload_n 0, 1) := by decide +kernel
theorem dX5_take_2 : decode cX5_take 2 = .ok (.iload_n 1, 1) := by decide +kernel
theorem dX5_take_3 : decode cX5_take 3 = .ok (.invokevirtual 132, 3) := by decide +kernel
theorem dX5_take_6 : decode cX5_take 6 = .ok (.ifCond .ne 7, 3) := by decide +kernel
theorem dX5_take_9 : decode cX5_take 9 = .ok (.iconst 1, 1) := by decide +kernel
theorem dX5_take_10 : decode cX5_take 10 = .ok (.goto 31, 3) := by decide +kernel
theorem dX5_take_13 : decode cX5_take 13 = .ok (.lload_n 2, 1) := by decide +kernel
theorem dX5_take_14 : decode cX5_take 14 = .ok (.aload_n 0, 1) := by decide +kernel
theorem dX5_take_15 : decode cX5_take 15 = .ok (.getfield 117, 3) := by decide +kernel
theorem dX5_take_18 : decode cX5_take 18 = .ok (.lcmp, 1) := by decide +kernel
theorem dX5_take_19 : decode cX5_take 19 = .ok (.ifCond .ge 7, 3) := by decide +kernel
theorem dX5_take_22 : decode cX5_take 22 = .ok (.iconst 2, 1) := by decide +kernel
theorem dX5_take_23 : decode cX5_take 23 = .ok (.goto 18, 3) := by decide +kernel
theorem dX5_take_26 : decode cX5_take 26 = .ok (.aload_n 0, 1) := by decide +kernel
theorem dX5_take_27 : decode cX5_take 27 = .ok (.getfield 19, 3) := by decide +kernel
theorem dX5_take_30 : decode cX5_take 30 = .ok (.iload_n 1, 1) := by decide +kernel
theorem dX5_take_31 : decode cX5_take 31 = .ok (.iaload, 1) := by decide +kernel
theorem dX5_take_32 : decode cX5_take 32 = .ok (.iconst (-1), 1) := by decide +kernel
theorem dX5_take_33 : decode cX5_take 33 = .ok (.if_icmp .eq 7, 3) := by decide +kernel
theorem dX5_take_36 : decode cX5_take 36 = .ok (.iconst 3, 1) := by decide +kernel
theorem dX5_take_37 : decode cX5_take 37 = .ok (.goto 4, 3) := by decide +kernel
theorem dX5_take_40 : decode cX5_take 40 = .ok (.iconst 0, 1) := by decide +kernel
theorem dX5_take_41 : decode cX5_take 41 = .ok (.putfield 82, 3) := by decide +kernel
theorem dX5_take_44 : decode cX5_take 44 = .ok (.aload_n 0, 1) := by decide +kernel
theorem dX5_take_45 : decode cX5_take 45 = .ok (.getfield 82, 3) := by decide +kernel
theorem dX5_take_48 : decode cX5_take 48 = .ok (.ifCond .le 5, 3) := by decide +kernel
theorem dX5_take_51 : decode cX5_take 51 = .ok (.iconst 0, 1) := by decide +kernel
theorem dX5_take_52 : decode cX5_take 52 = .ok (.ireturn, 1) := by decide +kernel
theorem dX5_take_53 : decode cX5_take 53 = .ok (.aload_n 0, 1) := by decide +kernel
theorem dX5_take_54 : decode cX5_take 54 = .ok (.lload_n 2, 1) := by decide +kernel
theorem dX5_take_55 : decode cX5_take 55 = .ok (.putfield 117, 3) := by decide +kernel
theorem dX5_take_58 : decode cX5_take 58 = .ok (.aload_n 0, 1) := by decide +kernel
theorem dX5_take_59 : decode cX5_take 59 = .ok (.iload_n 1, 1) := by decide +kernel
theorem dX5_take_60 : decode cX5_take 60 = .ok (.invokevirtual 136, 3) := by decide +kernel
theorem dX5_take_63 : decode cX5_take 63 = .ok (.istore 4, 2) := by decide +kernel
theorem dX5_take_65 : decode cX5_take 65 = .ok (.iload 4, 2) := by decide +kernel
theorem dX5_take_67 : decode cX5_take 67 = .ok (.iconst (-1), 1) := by decide +kernel
theorem dX5_take_68 : decode cX5_take 68 = .ok (.if_icmp .ne 5, 3) := by decide +kernel
theorem dX5_take_71 : decode cX5_take 71 = .ok (.iconst 0, 1) := by decide +kernel
theorem dX5_take_72 : decode cX5_take 72 = .ok (.ireturn, 1) := by decide +kernel
theorem dX5_take_73 : decode cX5_take 73 = .ok (.aload_n 0, 1) := by decide +kernel
theorem dX5_take_74 : decode cX5_take 74 = .ok (.getfield 16, 3) := by decide +kernel
theorem dX5_take_77 : decode cX5_take 77 = .ok (.iload_n 1, 1) := by decide +kernel
theorem dX5_take_78 : decode cX5_take 78 = .ok (.iaload, 1) := by decide +kernel
theorem dX5_take_79 : decode cX5_take 79 = .ok (.aload_n 0, 1) := by decide +kernel
theorem dX5_take_80 : decode cX5_take 80 = .ok (.getfield 78, 3) := by decide +kernel
theorem dX5_take_83 : decode cX5_take 83 = .ok (.if_icmp .ge 14, 3) := by decide +kernel
theorem dX5_take_86 : decode cX5_take 86 = .ok (.aload_n 0, 1) := by decide +kernel
theorem dX5_take_87 : decode cX5_take 87 = .ok (.iload_n 1, 1) := by decide +kernel
theorem dX5_take_88 : decode cX5_take 88 = .ok (.iload 4, 2) := by decide +kernel
theorem dX5_take_90 : decode cX5_take 90 = .ok (.iconst 1, 1) := by decide +kernel
theorem dX5_take_91 : decode cX5_take 91 = .ok (.invokevirtual 139, 3) := by decide +kernel
theorem dX5_take_94 : decode cX5_take 94 = .ok (.goto 4, 3) := by decide +kernel
theorem dX5_take_97 : decode cX5_take 97 = .ok (.iconst (-1), 1) := by decide +kernel
theorem dX5_take_98 : decode cX5_take 98 = .ok (.istore 5, 2) := by decide +kernel
theorem dX5_take_100 : decode cX5_take 100 = .ok (.iload 5, 2) := by decide +kernel
theorem dX5_take_102 : decode cX5_take 102 = .ok (.iconst (-1), 1) := by decide +kernel
theorem dX5_take_103 : decode cX5_take 103 = .ok (.if_icmp .ne 14, 3) := by decide +kernel
theorem dX5_take_106 : decode cX5_take 106 = .ok (.aload_n 0, 1) := by decide +kernel
theorem dX5_take_107 : decode cX5_take 107 = .ok (.iload_n 1, 1) := by decide +kernel
theorem dX5_take_108 : decode cX5_take 108 = .ok (.iload 4, 2) := by decide +kernel
theorem dX5_take_110 : decode cX5_take 110 = .ok (.iconst 0, 1) := by decide +kernel
theorem dX5_take_111 : decode cX5_take 111 = .ok (.invokevirtual 139, 3) := by decide +kernel
theorem dX5_take_114 : decode cX5_take 114 = .ok (.goto 5, 3) := by decide +kernel
theorem dX5_take_117 : decode cX5_take 117 = .ok (.iload 5, 2) := by decide +kernel
theorem dX5_take_119 : decode cX5_take 119 = .ok (.istore 5, 2) := by decide +kernel
theorem dX5_take_121 : decode cX5_take 121 = .ok (.aload_n 0, 1) := by decide +kernel
theorem dX5_take_122 : decode cX5_take 122 = .ok (.getfield 69, 3) := by decide +kernel
theorem dX5_take_125 : decode cX5_take 125 = .ok (.iload 5, 2) := by decide +kernel
theorem dX5_take_127 : decode cX5_take 127 = .ok (.iconst 0, 1) := by decide +kernel
theorem dX5_take_128 : decode cX5_take 128 = .ok (.bastore, 1) := by decide +kernel
theorem dX5_take_129 : decode cX5_take 129 = .ok (.aload_n 0, 1) := by decide +kernel
theorem dX5_take_130 : decode cX5_take 130 = .ok (.getfield 66, 3) := by decide +kernel
theorem dX5_take_133 : decode cX5_take 133 = .ok (.iload 5, 2) := by decide +kernel
theorem dX5_take_135 : decode cX5_take 135 = .ok (.iconst 1, 1) := by decide +kernel
theorem dX5_take_136 : decode cX5_take 136 = .ok (.bastore, 1) := by decide +kernel
theorem dX5_take_137 : decode cX5_take 137 = .ok (.aload_n 0, 1) := by decide +kernel
theorem dX5_take_138 : decode cX5_take 138 = .ok (.getfield 60, 3) := by decide +kernel
theorem dX5_take_141 : decode cX5_take 141 = .ok (.iload 5, 2) := by decide +kernel
theorem dX5_take_143 : decode cX5_take 143 = .ok (.iload_n 1, 1) := by decide +kernel
theorem dX5_take_144 : decode cX5_take 144 = .ok (.iastore, 1) := by decide +kernel
theorem dX5_take_145 : decode cX5_take 145 = .ok (.aload_n 0, 1) := by decide +kernel
theorem dX5_take_146 : decode cX5_take 146 = .ok (.getfield 19, 3) := by decide +kernel
theorem dX5_take_149 : decode cX5_take 149 = .ok (.iload_n 1, 1) := by decide +kernel
theorem dX5_take_150 : decode cX5_take 150 = .ok (.iload 5, 2) := by decide +kernel
theorem dX5_take_152 : decode cX5_take 152 = .ok (.iastore, 1) := by decide +kernel
theorem dX5_take_153 : decode cX5_take 153 = .ok (.aload_n 0, 1) := by decide +kernel
theorem dX5_take_154 : decode cX5_take 154 = .ok (.iload 5, 2) := by decide +kernel
theorem dX5_take_156 : decode cX5_take 156 = .ok (.invokevirtual 128, 3) := by decide +kernel
theorem dX5_take_159 : decode cX5_take 159 = .ok (.aload_n 0, 1) := by decide +kernel
theorem dX5_take_160 : decode cX5_take 160 = .ok (.getfield 7, 3) := by decide +kernel
theorem dX5_take_163 : decode cX5_take 163 = .ok (.iload_n 1, 1) := by decide +kernel
theorem dX5_take_164 : decode cX5_take 164 = .ok (.iaload, 1) := by decide +kernel
theorem dX5_take_165 : decode cX5_take 165 = .ok (.if_icmp .ne 16, 3) := by decide +kernel
theorem dX5_take_168 : decode cX5_take 168 = .ok (.aload_n 0, 1) := by decide +kernel
theorem dX5_take_169 : decode cX5_take 169 = .ok (.getfield 16, 3) := by decide +kernel
theorem dX5_take_172 : decode cX5_take 172 = .ok (.iload_n 1, 1) := by decide +kernel
theorem dX5_take_173 : decode cX5_take 173 = .ok (.dup2, 1) := by decide +kernel
theorem dX5_take_174 : decode cX5_take 174 = .ok (.iaload, 1) := by decide +kernel
theorem dX5_take_175 : decode cX5_take 175 = .ok (.iconst 1, 1) := by decide +kernel
theorem dX5_take_176 : decode cX5_take 176 = .ok (.iadd, 1) := by decide +kernel
theorem dX5_take_177 : decode cX5_take 177 = .ok (.iastore, 1) := by decide +kernel
theorem dX5_take_178 : decode cX5_take 178 = .ok (.goto 47, 3) := by decide +kernel
theorem dX5_take_181 : decode cX5_take 181 = .ok (.aload_n 0, 1) := by decide +kernel
theorem dX5_take_182 : decode cX5_take 182 = .ok (.getfield 7, 3) := by decide +kernel
theorem dX5_take_185 : decode cX5_take 185 = .ok (.iload_n 1, 1) := by decide +kernel
theorem dX5_take_186 : decode cX5_take 186 = .ok (.aload_n 0, 1) := by decide +kernel
theorem dX5_take_187 : decode cX5_take 187 = .ok (.iload 5, 2) := by decide +kernel
theorem dX5_take_189 : decode cX5_take 189 = .ok (.invokevirtual 128, 3) := by decide +kernel
theorem dX5_take_192 : decode cX5_take 192 = .ok (.iastore, 1) := by decide +kernel
theorem dX5_take_193 : decode cX5_take 193 = .ok (.aload_n 0, 1) := by decide +kernel
theorem dX5_take_194 : decode cX5_take 194 = .ok (.getfield 16, 3) := by decide +kernel
theorem dX5_take_197 : decode cX5_take 197 = .ok (.iload_n 1, 1) := by decide +kernel
theorem dX5_take_198 : decode cX5_take 198 = .ok (.iconst 0, 1) := by decide +kernel
theorem dX5_take_199 : decode cX5_take 199 = .ok (.iastore, 1) := by decide +kernel
theorem dX5_take_200 : decode cX5_take 200 = .ok (.aload_n 0, 1) := by decide +kernel
theorem dX5_take_201 : decode cX5_take 201 = .ok (.getfield 28, 3) := by decide +kernel
theorem dX5_take_204 : decode cX5_take 204 = .ok (.iconst 4, 1) := by decide +kernel
theorem dX5_take_205 : decode cX5_take 205 = .ok (.aload_n 0, 1) := by decide +kernel
theorem dX5_take_206 : decode cX5_take 206 = .ok (.getfield 32, 3) := by decide +kernel
theorem dX5_take_209 : decode cX5_take 209 = .ok (.aload_n 0, 1) := by decide +kernel
theorem dX5_take_210 : decode cX5_take 210 = .ok (.getfield 51, 3) := by decide +kernel
theorem dX5_take_213 : decode cX5_take 213 = .ok (.iload 5, 2) := by decide +kernel
theorem dX5_take_215 : decode cX5_take 215 = .ok (.iaload, 1) := by decide +kernel
theorem dX5_take_216 : decode cX5_take 216 = .ok (.iaload, 1) := by decide +kernel
theorem dX5_take_217 : decode cX5_take 217 = .ok (.imul, 1) := by decide +kernel
theorem dX5_take_218 : decode cX5_take 218 = .ok (.iconst 2, 1) := by decide +kernel
theorem dX5_take_219 : decode cX5_take 219 = .ok (.isub, 1) := by decide +kernel
theorem dX5_take_220 : decode cX5_take 220 = .ok (.dup2, 1) := by decide +kernel
theorem dX5_take_221 : decode cX5_take 221 = .ok (.laload, 1) := by decide +kernel
theorem dX5_take_222 : decode cX5_take 222 = .ok (.lconst 1, 1) := by decide +kernel
theorem dX5_take_223 : decode cX5_take 223 = .ok (.ladd, 1) := by decide +kernel
theorem dX5_take_224 : decode cX5_take 224 = .ok (.lastore, 1) := by decide +kernel
theorem dX5_take_225 : decode cX5_take 225 = .ok (.aload_n 0, 1) := by decide +kernel
theorem dX5_take_226 : decode cX5_take 226 = .ok (.getfield 51, 3) := by decide +kernel
theorem dX5_take_229 : decode cX5_take 229 = .ok (.iload 5, 2) := by decide +kernel
theorem dX5_take_231 : decode cX5_take 231 = .ok (.iaload, 1) := by decide +kernel
theorem dX5_take_232 : decode cX5_take 232 = .ok (.ireturn, 1) := by decide +kernel
theorem dX5_isOver_0 : decode cX5_isOver 0 = .ok (.aload_n 0, 1) := by decide +kernel
theorem dX5_isOver_1 : decode cX5_isOver 1 = .ok (.getfield 63, 3) := by decide +kernel
theorem dX5_isOver_4 : decode cX5_isOver 4 = .ok (.iload_n 1, 1) := by decide +kernel
theorem dX5_isOver_5 : decode cX5_isOver 5 = .ok (.iaload, 1) := by decide +kernel
theorem dX5_isOver_6 : decode cX5_isOver 6 = .ok (.aload_n 0, 1) := by decide +kernel
theorem dX5_isOver_7 : decode cX5_isOver 7 = .ok (.getfield 54, 3) := by decide +kernel
theorem dX5_isOver_10 : decode cX5_isOver 10 = .ok (.iload_n 1, 1) := by decide +kernel
theorem dX5_isOver_11 : decode cX5_isOver 11 = .ok (.iaload, 1) := by decide +kernel
theorem dX5_isOver_12 : decode cX5_isOver 12 = .ok (.aload_n 0, 1) := by decide +kernel
theorem dX5_isOver_13 : decode cX5_isOver 13 = .ok (.getfield 35, 3) := by decide +kernel
theorem dX5_isOver_16 : decode cX5_isOver 16 = .ok (.aload_n 0, 1) := by decide +kernel
theorem dX5_isOver_17 : decode cX5_isOver 17 = .ok (.getfield 51, 3) := by decide +kernel
theorem dX5_isOver_20 : decode cX5_isOver 20 = .ok (.iload_n 1, 1) := by decide +kernel
theorem dX5_isOver_21 : decode cX5_isOver 21 = .ok (.iaload, 1) := by decide +kernel
theorem dX5_isOver_22 : decode cX5_isOver 22 = .ok (.iaload, 1) := by decide +kernel
theorem dX5_isOver_23 : decode cX5_isOver 23 = .ok (.imul, 1) := by decide +kernel
theorem dX5_isOver_24 : decode cX5_isOver 24 = .ok (.if_icmp .ne 7, 3) := by decide +kernel
theorem dX5_isOver_27 : decode cX5_isOver 27 = .ok (.iconst 1, 1) := by decide +kernel
theorem dX5_isOver_28 : decode cX5_isOver 28 = .ok (.goto 4, 3) := by decide +kernel
theorem dX5_isOver_31 : decode cX5_isOver 31 = .ok (.iconst 0, 1) := by decide +kernel
theorem dX5_isOver_32 : decode cX5_isOver 32 = .ok (.ireturn, 1) := by decide +kernel
theorem dX5_leave_0 : decode cX5_leave 0 = .ok (.aload_n 0, 1) := by decide +kernel
theorem dX5_leave_1 : decode cX5_leave 1 = .ok (.getfield 60, 3) := by decide +kernel
theorem dX5_leave_4 : decode cX5_leave 4 = .ok (.aload_n 0, 1) := by decide +kernel
theorem dX5_leave_5 : decode cX5_leave 5 = .ok (.getfield 19, 3) := by decide +kernel
theorem dX5_leave_8 : decode cX5_leave 8 = .ok (.iload_n 1, 1) := by decide +kernel
theorem dX5_leave_9 : decode cX5_leave 9 = .ok (.iaload, 1) := by decide +kernel
theorem dX5_leave_10 : decode cX5_leave 10 = .ok (.iconst 0, 1) := by decide +kernel
theorem dX5_leave_11 : decode cX5_leave 11 = .ok (.iastore, 1) := by decide +kernel
theorem dX5_leave_12 : decode cX5_leave 12 = .ok (.aload_n 0, 1) := by decide +kernel
theorem dX5_leave_13 : decode cX5_leave 13 = .ok (.getfield 19, 3) := by decide +kernel
theorem dX5_leave_16 : decode cX5_leave 16 = .ok (.iload_n 1, 1) := by decide +kernel
theorem dX5_leave_17 : decode cX5_leave 17 = .ok (.iconst (-1), 1) := by decide +kernel
theorem dX5_leave_18 : decode cX5_leave 18 = .ok (.iastore, 1) := by decide +kernel
theorem dX5_leave_19 : decode cX5_leave 19 = .ok (.return_, 1) := by decide +kernel
theorem dX5_odd_0 : decode cX5_odd 0 = .ok (.iload_n 1, 1) := by decide +kernel
theorem dX5_odd_1 : decode cX5_odd 1 = .ok (.iload_n 0, 1) := by decide +kernel
theorem dX5_odd_2 : decode cX5_odd 2 = .ok (.idiv, 1) := by decide +kernel
theorem dX5_odd_3 : decode cX5_odd 3 = .ok (.iload_n 0, 1) := by decide +kernel
theorem dX5_odd_4 : decode cX5_odd 4 = .ok (.iconst 1, 1) := by decide +kernel
theorem dX5_odd_5 : decode cX5_odd 5 = .ok (.iadd, 1) := by decide +kernel
theorem dX5_odd_6 : decode cX5_odd 6 = .ok (.iconst 2, 1) := by decide +kernel
theorem dX5_odd_7 : decode cX5_odd 7 = .ok (.idiv, 1) := by decide +kernel
theorem dX5_odd_8 : decode cX5_odd 8 = .ok (.imul, 1) := by decide +kernel
theorem dX5_odd_9 : decode cX5_odd 9 = .ok (.iload_n 1, 1) := by decide +kernel
theorem dX5_odd_10 : decode cX5_odd 10 = .ok (.iload_n 0, 1) := by decide +kernel
theorem dX5_odd_11 : decode cX5_odd 11 = .ok (.irem, 1) := by decide +kernel
theorem dX5_odd_12 : decode cX5_odd 12 = .ok (.iconst 1, 1) := by decide +kernel
theorem dX5_odd_13 : decode cX5_odd 13 = .ok (.iadd, 1) := by decide +kernel
theorem dX5_odd_14 : decode cX5_odd 14 = .ok (.iconst 2, 1) := by decide +kernel
theorem dX5_odd_15 : decode cX5_odd 15 = .ok (.idiv, 1) := by decide +kernel
theorem dX5_odd_16 : decode cX5_odd 16 = .ok (.iadd, 1) := by decide +kernel
theorem dX5_odd_17 : decode cX5_odd 17 = .ok (.ireturn, 1) := by decide +kernel
set_option maxRecDepth 20000 in
theorem ggX5_print_X5_isPrinter : GoodIn wsX5_print wsX5_isPrinter := goodIn_r _ [16, 17, 18, 19, 15, 20, 33, 34, 35, 36, 37, 38, 39, 40, 41, 42, 43, 44, 45, 46, 47, 48, 49, 50, 51, 52, 53, 54, 55, 56, 57, 58, 59, 60, 61, 62] (by decide +kernel) (by decide +kernel)
set_option maxRecDepth 20000 in
theorem gX5_print_X5_isPrinter : GoodIn wsX5_print (wsV RX5 132 RX5 yX5_isPrinter wsX5_isPrinter) := goodIn_app (goodIn_of _ (by decide +kernel)) ggX5_print_X5_isPrinter
set_option maxRecDepth 20000 in
theorem ggX5_print_X5_in : GoodIn wsX5_print wsX5_in := goodIn_r _ [20] (by decide +kernel) (by decide +kernel)
set_option maxRecDepth 20000 in
theorem gX5_print_X5_in : GoodIn wsX5_print (va_wsS RX5 87 yX5_in wsX5_in) := goodIn_app (goodIn_of _ (by decide +kernel)) ggX5_print_X5_in
set_option maxRecDepth 20000 in
theorem ggX5_print_X5_odd : GoodIn wsX5_print wsX5_odd := goodIn_r _ [23] (by decide +kernel) (by decide +kernel)
set_option maxRecDepth 20000 in
theorem gX5_print_X5_odd : GoodIn wsX5_print (va_wsS RX5 145 yX5_odd wsX5_odd) := goodIn_app (goodIn_of _ (by decide +kernel)) ggX5_print_X5_odd
set_option maxRecDepth 20000 in
theorem ggX5_print_X5_isOver : GoodIn wsX5_print wsX5_isOver := goodIn_r _ [27, 7, 6, 5, 4, 33, 34, 35, 36, 37, 38, 39, 40, 41, 42, 43, 44, 45, 46, 47, 48, 49, 50, 51, 52, 53, 54, 55, 56, 57, 58, 59, 60, 61, 62] (by decide +kernel) (by decide +kernel)
set_option maxRecDepth 20000 in
theorem gX5_print_X5_isOver : GoodIn wsX5_print (wsV RX5 149 RX5 yX5_isOver wsX5_isOver) := goodIn_app (goodIn_of _ (by decide +kernel)) ggX5_print_X5_isOver
set_option maxRecDepth 20000 in
theorem ggX5_print_X5_leave : GoodIn wsX5_print wsX5_leave := goodIn_r _ [31, 32, 3, 33, 34, 35, 36, 37, 38, 39, 40, 41, 42, 43, 44, 45, 46, 47, 48, 49, 50, 51, 52, 53, 54, 55, 56, 57, 58, 59, 60, 61, 62] (by decide +kernel) (by decide +kernel)
set_option maxRecDepth 20000 in
theorem gX5_print_X5_leave : GoodIn wsX5_print (wsV RX5 152 RX5 yX5_leave wsX5_leave) := goodIn_app (goodIn_of _ (by decide +kernel)) ggX5_print_X5_leave
theorem dX5_print_0 : decode cX5_print 0 = .ok (.aload_n 0, 1) := by decide +kernel
theorem dX5_print_1 : decode cX5_print 1 = .ok (.aload_n 0, 1) := by decide +kernel
theorem dX5_print_2 : decode cX5_print 2 = .ok (.iload_n 1, 1) := by decide +kernel
theorem dX5_print_3 : decode cX5_print 3 = .ok (.invokevirtual 132, 3) := by decide +kernel
theorem dX5_print_6 : decode cX5_print 6 = .ok (.ifCond .ne 7, 3) := by decide +kernel
theorem dX5_print_9 : decode cX5_print 9 = .ok (.iconst 1, 1) := by decide +kernel
theorem dX5_print_10 : decode cX5_print 10 = .ok (.goto 20, 3) := by decide +kernel
theorem dX5_print_13 : decode cX5_print 13 = .ok (.iload_n 2, 1) := by decide +kernel
theorem dX5_print_14 : decode cX5_print 14 = .ok (.i2l, 1) := by decide +kernel
theorem dX5_print_15 : decode cX5_print 15 = .ok (.lconst 0, 1) := by decide +kernel
theorem dX5_print_16 : decode cX5_print 16 = .ok (.ldc2_w 143, 3) := by decide +kernel
theorem dX5_print_19 : decode cX5_print 19 = .ok (.invokestatic 87, 3) := by decide +kernel
theorem dX5_print_22 : decode cX5_print 22 = .ok (.ifCond .ne 7, 3) := by decide +kernel
theorem dX5_print_25 : decode cX5_print 25 = .ok (.iconst 2, 1) := by decide +kernel
theorem dX5_print_26 : decode cX5_print 26 = .ok (.goto 4, 3) := by decide +kernel
theorem dX5_print_29 : decode cX5_print 29 = .ok (.iconst 0, 1) := by decide +kernel
theorem dX5_print_30 : decode cX5_print 30 = .ok (.putfield 82, 3) := by decide +kernel
theorem dX5_print_33 : decode cX5_print 33 = .ok (.aload_n 0, 1) := by decide +kernel
theorem dX5_print_34 : decode cX5_print 34 = .ok (.getfield 82, 3) := by decide +kernel
theorem dX5_print_37 : decode cX5_print 37 = .ok (.ifCond .gt 13, 3) := by decide +kernel
theorem dX5_print_40 : decode cX5_print 40 = .ok (.aload_n 0, 1) := by decide +kernel
theorem dX5_print_41 : decode cX5_print 41 = .ok (.getfield 19, 3) := by decide +kernel
theorem dX5_print_44 : decode cX5_print 44 = .ok (.iload_n 1, 1) := by decide +kernel
theorem dX5_print_45 : decode cX5_print 45 = .ok (.iaload, 1) := by decide +kernel
theorem dX5_print_46 : decode cX5_print 46 = .ok (.iconst (-1), 1) := by decide +kernel
theorem dX5_print_47 : decode cX5_print 47 = .ok (.if_icmp .ne 5, 3) := by decide +kernel
theorem dX5_print_50 : decode cX5_print 50 = .ok (.iconst 0, 1) := by decide +kernel
theorem dX5_print_51 : decode cX5_print 51 = .ok (.ireturn, 1) := by decide +kernel
theorem dX5_print_52 : decode cX5_print 52 = .ok (.aload_n 0, 1) := by decide +kernel
theorem dX5_print_53 : decode cX5_print 53 = .ok (.getfield 19, 3) := by decide +kernel
theorem dX5_print_56 : decode cX5_print 56 = .ok (.iload_n 1, 1) := by decide +kernel
theorem dX5_print_57 : decode cX5_print 57 = .ok (.iaload, 1) := by decide +kernel
theorem dX5_print_58 : decode cX5_print 58 = .ok (.istore_n 3, 1) := by decide +kernel
theorem dX5_print_59 : decode cX5_print 59 = .ok (.aload_n 0, 1) := by decide +kernel
theorem dX5_print_60 : decode cX5_print 60 = .ok (.getfield 51, 3) := by decide +kernel
theorem dX5_print_63 : decode cX5_print 63 = .ok (.iload_n 3, 1) := by decide +kernel
theorem dX5_print_64 : decode cX5_print 64 = .ok (.iaload, 1) := by decide +kernel
theorem dX5_print_65 : decode cX5_print 65 = .ok (.istore 4, 2) := by decide +kernel
theorem dX5_print_67 : decode cX5_print 67 = .ok (.aload_n 0, 1) := by decide +kernel
theorem dX5_print_68 : decode cX5_print 68 = .ok (.getfield 35, 3) := by decide +kernel
theorem dX5_print_71 : decode cX5_print 71 = .ok (.iload 4, 2) := by decide +kernel
theorem dX5_print_73 : decode cX5_print 73 = .ok (.iaload, 1) := by decide +kernel
theorem dX5_print_74 : decode cX5_print 74 = .ok (.istore 5, 2) := by decide +kernel
theorem dX5_print_76 : decode cX5_print 76 = .ok (.aload_n 0, 1) := by decide +kernel
theorem dX5_print_77 : decode cX5_print 77 = .ok (.getfield 54, 3) := by decide +kernel
theorem dX5_print_80 : decode cX5_print 80 = .ok (.iload_n 3, 1) := by decide +kernel
theorem dX5_print_81 : decode cX5_print 81 = .ok (.iaload, 1) := by decide +kernel
theorem dX5_print_82 : decode cX5_print 82 = .ok (.iload 5, 2) := by decide +kernel
theorem dX5_print_84 : decode cX5_print 84 = .ok (.imul, 1) := by decide +kernel
theorem dX5_print_85 : decode cX5_print 85 = .ok (.aload_n 0, 1) := by decide +kernel
theorem dX5_print_86 : decode cX5_print 86 = .ok (.getfield 63, 3) := by decide +kernel
theorem dX5_print_89 : decode cX5_print 89 = .ok (.iload_n 3, 1) := by decide +kernel
theorem dX5_print_90 : decode cX5_print 90 = .ok (.iaload, 1) := by decide +kernel
theorem dX5_print_91 : decode cX5_print 91 = .ok (.isub, 1) := by decide +kernel
theorem dX5_print_92 : decode cX5_print 92 = .ok (.istore 6, 2) := by decide +kernel
theorem dX5_print_94 : decode cX5_print 94 = .ok (.iload_n 2, 1) := by decide +kernel
theorem dX5_print_95 : decode cX5_print 95 = .ok (.iload 6, 2) := by decide +kernel
theorem dX5_print_97 : decode cX5_print 97 = .ok (.if_icmp .ge 7, 3) := by decide +kernel
theorem dX5_print_100 : decode cX5_print 100 = .ok (.iload_n 2, 1) := by decide +kernel
theorem dX5_print_101 : decode cX5_print 101 = .ok (.goto 5, 3) := by decide +kernel
theorem dX5_print_104 : decode cX5_print 104 = .ok (.iload 6, 2) := by decide +kernel
theorem dX5_print_106 : decode cX5_print 106 = .ok (.istore 7, 2) := by decide +kernel
theorem dX5_print_108 : decode cX5_print 108 = .ok (.iconst 4, 1) := by decide +kernel
theorem dX5_print_109 : decode cX5_print 109 = .ok (.aload_n 0, 1) := by decide +kernel
theorem dX5_print_110 : decode cX5_print 110 = .ok (.getfield 32, 3) := by decide +kernel
theorem dX5_print_113 : decode cX5_print 113 = .ok (.iload 4, 2) := by decide +kernel
theorem dX5_print_115 : decode cX5_print 115 = .ok (.iaload, 1) := by decide +kernel
theorem dX5_print_116 : decode cX5_print 116 = .ok (.imul, 1) := by decide +kernel
theorem dX5_print_117 : decode cX5_print 117 = .ok (.iconst 4, 1) := by decide +kernel
theorem dX5_print_118 : decode cX5_print 118 = .ok (.isub, 1) := by decide +kernel
theorem dX5_print_119 : decode cX5_print 119 = .ok (.istore 8, 2) := by decide +kernel
theorem dX5_print_121 : decode cX5_print 121 = .ok (.aload_n 0, 1) := by decide +kernel
theorem dX5_print_122 : decode cX5_print 122 = .ok (.getfield 63, 3) := by decide +kernel
theorem dX5_print_125 : decode cX5_print 125 = .ok (.iload_n 3, 1) := by decide +kernel
theorem dX5_print_126 : decode cX5_print 126 = .ok (.iaload, 1) := by decide +kernel
theorem dX5_print_127 : decode cX5_print 127 = .ok (.istore 9, 2) := by decide +kernel
theorem dX5_print_129 : decode cX5_print 129 = .ok (.iload 7, 2) := by decide +kernel
theorem dX5_print_131 : decode cX5_print 131 = .ok (.istore 10, 2) := by decide +kernel
theorem dX5_print_133 : decode cX5_print 133 = .ok (.aload_n 0, 1) := by decide +kernel
theorem dX5_print_134 : decode cX5_print 134 = .ok (.getfield 25, 3) := by decide +kernel
theorem dX5_print_137 : decode cX5_print 137 = .ok (.aload_n 0, 1) := by decide +kernel
theorem dX5_print_138 : decode cX5_print 138 = .ok (.getfield 32, 3) := by decide +kernel
theorem dX5_print_141 : decode cX5_print 141 = .ok (.iload 4, 2) := by decide +kernel
theorem dX5_print_143 : decode cX5_print 143 = .ok (.iaload, 1) := by decide +kernel
theorem dX5_print_144 : decode cX5_print 144 = .ok (.iaload, 1) := by decide +kernel
theorem dX5_print_145 : decode cX5_print 145 = .ok (.iconst 2, 1) := by decide +kernel
theorem dX5_print_146 : decode cX5_print 146 = .ok (.if_icmp .ne 59, 3) := by decide +kernel
theorem dX5_print_149 : decode cX5_print 149 = .ok (.iload 5, 2) := by decide +kernel
theorem dX5_print_151 : decode cX5_print 151 = .ok (.iload 9, 2) := by decide +kernel
theorem dX5_print_153 : decode cX5_print 153 = .ok (.iload 7, 2) := by decide +kernel
theorem dX5_print_155 : decode cX5_print 155 = .ok (.iadd, 1) := by decide +kernel
theorem dX5_print_156 : decode cX5_print 156 = .ok (.invokestatic 145, 3) := by decide +kernel
theorem dX5_print_159 : decode cX5_print 159 = .ok (.iload 5, 2) := by decide +kernel
theorem dX5_print_161 : decode cX5_print 161 = .ok (.iload 9, 2) := by decide +kernel
theorem dX5_print_163 : decode cX5_print 163 = .ok (.invokestatic 145, 3) := by decide +kernel
theorem dX5_print_166 : decode cX5_print 166 = .ok (.isub, 1) := by decide +kernel
theorem dX5_print_167 : decode cX5_print 167 = .ok (.istore 10, 2) := by decide +kernel
theorem dX5_print_169 : decode cX5_print 169 = .ok (.iload 7, 2) := by decide +kernel
theorem dX5_print_171 : decode cX5_print 171 = .ok (.ifCond .le 30, 3) := by decide +kernel
theorem dX5_print_174 : decode cX5_print 174 = .ok (.aload_n 0, 1) := by decide +kernel
theorem dX5_print_175 : decode cX5_print 175 = .ok (.getfield 66, 3) := by decide +kernel
theorem dX5_print_178 : decode cX5_print 178 = .ok (.iload_n 3, 1) := by decide +kernel
theorem dX5_print_179 : decode cX5_print 179 = .ok (.baload, 1) := by decide +kernel
theorem dX5_print_180 : decode cX5_print 180 = .ok (.ifCond .eq 21, 3) := by decide +kernel
theorem dX5_print_183 : decode cX5_print 183 = .ok (.iload 9, 2) := by decide +kernel
theorem dX5_print_185 : decode cX5_print 185 = .ok (.iload 5, 2) := by decide +kernel
theorem dX5_print_187 : decode cX5_print 187 = .ok (.irem, 1) := by decide +kernel
theorem dX5_print_188 : decode cX5_print 188 = .ok (.iconst 2, 1) := by decide +kernel
theorem dX5_print_189 : decode cX5_print 189 = .ok (.irem, 1) := by decide +kernel
theorem dX5_print_190 : decode cX5_print 190 = .ok (.iconst 1, 1) := by decide +kernel
theorem dX5_print_191 : decode cX5_print 191 = .ok (.if_icmp .ne 10, 3) := by decide +kernel
theorem dX5_print_194 : decode cX5_print 194 = .ok (.iload 10, 2) := by decide +kernel
theorem dX5_print_196 : decode cX5_print 196 = .ok (.iconst 1, 1) := by decide +kernel
theorem dX5_print_197 : decode cX5_print 197 = .ok (.iadd, 1) := by decide +kernel
theorem dX5_print_198 : decode cX5_print 198 = .ok (.goto 5, 3) := by decide +kernel
theorem dX5_print_201 : decode cX5_print 201 = .ok (.iload 10, 2) := by decide +kernel
theorem dX5_print_203 : decode cX5_print 203 = .ok (.istore 10, 2) := by decide +kernel
theorem dX5_print_205 : decode cX5_print 205 = .ok (.aload_n 0, 1) := by decide +kernel
theorem dX5_print_206 : decode cX5_print 206 = .ok (.getfield 28, 3) := by decide +kernel
theorem dX5_print_209 : decode cX5_print 209 = .ok (.iload 8, 2) := by decide +kernel
theorem dX5_print_211 : decode cX5_print 211 = .ok (.aload_n 0, 1) := by decide +kernel
theorem dX5_print_212 : decode cX5_print 212 = .ok (.getfield 28, 3) := by decide +kernel
theorem dX5_print_215 : decode cX5_print 215 = .ok (.iload 8, 2) := by decide +kernel
theorem dX5_print_217 : decode cX5_print 217 = .ok (.laload, 1) := by decide +kernel
theorem dX5_print_218 : decode cX5_print 218 = .ok (.iload 7, 2) := by decide +kernel
theorem dX5_print_220 : decode cX5_print 220 = .ok (.i2l, 1) := by decide +kernel
theorem dX5_print_221 : decode cX5_print 221 = .ok (.ladd, 1) := by decide +kernel
theorem dX5_print_222 : decode cX5_print 222 = .ok (.lastore, 1) := by decide +kernel
theorem dX5_print_223 : decode cX5_print 223 = .ok (.aload_n 0, 1) := by decide +kernel
theorem dX5_print_224 : decode cX5_print 224 = .ok (.getfield 28, 3) := by decide +kernel
theorem dX5_print_227 : decode cX5_print 227 = .ok (.iload 8, 2) := by decide +kernel
theorem dX5_print_229 : decode cX5_print 229 = .ok (.iconst 1, 1) := by decide +kernel
theorem dX5_print_230 : decode cX5_print 230 = .ok (.iadd, 1) := by decide +kernel
theorem dX5_print_231 : decode cX5_print 231 = .ok (.aload_n 0, 1) := by decide +kernel
theorem dX5_print_232 : decode cX5_print 232 = .ok (.getfield 28, 3) := by decide +kernel
theorem dX5_print_235 : decode cX5_print 235 = .ok (.iload 8, 2) := by decide +kernel
theorem dX5_print_237 : decode cX5_print 237 = .ok (.iconst 1, 1) := by decide +kernel
theorem dX5_print_238 : decode cX5_print 238 = .ok (.iadd, 1) := by decide +kernel
theorem dX5_print_239 : decode cX5_print 239 = .ok (.laload, 1) := by decide +kernel
theorem dX5_print_240 : decode cX5_print 240 = .ok (.iload 10, 2) := by decide +kernel
theorem dX5_print_242 : decode cX5_print 242 = .ok (.i2l, 1) := by decide +kernel
theorem dX5_print_243 : decode cX5_print 243 = .ok (.ladd, 1) := by decide +kernel
theorem dX5_print_244 : decode cX5_print 244 = .ok (.lastore, 1) := by decide +kernel
theorem dX5_print_245 : decode cX5_print 245 = .ok (.aload_n 0, 1) := by decide +kernel
theorem dX5_print_246 : decode cX5_print 246 = .ok (.getfield 63, 3) := by decide +kernel
theorem dX5_print_249 : decode cX5_print 249 = .ok (.iload_n 3, 1) := by decide +kernel
theorem dX5_print_250 : decode cX5_print 250 = .ok (.iload 9, 2) := by decide +kernel
theorem dX5_print_252 : decode cX5_print 252 = .ok (.iload 7, 2) := by decide +kernel
theorem dX5_print_254 : decode cX5_print 254 = .ok (.iadd, 1) := by decide +kernel
theorem dX5_print_255 : decode cX5_print 255 = .ok (.iastore, 1) := by decide +kernel
theorem dX5_print_256 : decode cX5_print 256 = .ok (.aload_n 0, 1) := by decide +kernel
theorem dX5_print_257 : decode cX5_print 257 = .ok (.getfield 66, 3) := by decide +kernel
theorem dX5_print_260 : decode cX5_print 260 = .ok (.iload_n 3, 1) := by decide +kernel
theorem dX5_print_261 : decode cX5_print 261 = .ok (.aload_n 0, 1) := by decide +kernel
theorem dX5_print_262 : decode cX5_print 262 = .ok (.getfield 66, 3) := by decide +kernel
theorem dX5_print_265 : decode cX5_print 265 = .ok (.iload_n 3, 1) := by decide +kernel
theorem dX5_print_266 : decode cX5_print 266 = .ok (.baload, 1) := by decide +kernel
theorem dX5_print_267 : decode cX5_print 267 = .ok (.ifCond .eq 12, 3) := by decide +kernel
theorem dX5_print_270 : decode cX5_print 270 = .ok (.iload 7, 2) := by decide +kernel
theorem dX5_print_272 : decode cX5_print 272 = .ok (.ifCond .ne 7, 3) := by decide +kernel
theorem dX5_print_275 : decode cX5_print 275 = .ok (.iconst 1, 1) := by decide +kernel
theorem dX5_print_276 : decode cX5_print 276 = .ok (.goto 4, 3) := by decide +kernel
theorem dX5_print_279 : decode cX5_print 279 = .ok (.iconst 0, 1) := by decide +kernel
theorem dX5_print_280 : decode cX5_print 280 = .ok (.bastore, 1) := by decide +kernel
theorem dX5_print_281 : decode cX5_print 281 = .ok (.aload_n 0, 1) := by decide +kernel
theorem dX5_print_282 : decode cX5_print 282 = .ok (.iload_n 3, 1) := by decide +kernel
theorem dX5_print_283 : decode cX5_print 283 = .ok (.invokevirtual 149, 3) := by decide +kernel
theorem dX5_print_286 : decode cX5_print 286 = .ok (.ifCond .eq 8, 3) := by decide +kernel
theorem dX5_print_289 : decode cX5_print 289 = .ok (.aload_n 0, 1) := by decide +kernel
theorem dX5_print_290 : decode cX5_print 290 = .ok (.iload_n 1, 1) := by decide +kernel
theorem dX5_print_291 : decode cX5_print 291 = .ok (.invokevirtual 152, 3) := by decide +kernel
theorem dX5_print_294 : decode cX5_print 294 = .ok (.iload 7, 2) := by decide +kernel
theorem dX5_print_296 : decode cX5_print 296 = .ok (.ireturn, 1) := by decide +kernel
set_option maxRecDepth 20000 in
theorem ggX5_fault_X5_isPrinter : GoodIn wsX5_fault wsX5_isPrinter := goodIn_r _ [16, 17, 18, 19, 15, 20, 26, 27, 28, 29, 30, 31, 32, 33, 34, 35, 36, 37, 38, 39, 40, 41, 42, 43, 44, 45, 46, 47, 48, 49, 50, 51, 52, 53, 54, 55] (by decide +kernel) (by decide +kernel)
set_option maxRecDepth 20000 in
theorem gX5_fault_X5_isPrinter : GoodIn wsX5_fault (wsV RX5 132 RX5 yX5_isPrinter wsX5_isPrinter) := goodIn_app (goodIn_of _ (by decide +kernel)) ggX5_fault_X5_isPrinter
set_option maxRecDepth 20000 in
theorem ggX5_fault_X5_leave : GoodIn wsX5_fault wsX5_leave := goodIn_r _ [24, 25, 2, 26, 27, 28, 29, 30, 31, 32, 33, 34, 35, 36, 37, 38, 39, 40, 41, 42, 43, 44, 45, 46, 47, 48, 49, 50, 51, 52, 53, 54, 55] (by decide +kernel) (by decide +kernel)
set_option maxRecDepth 20000 in
theorem gX5_fault_X5_leave : GoodIn wsX5_fault (wsV RX5 152 RX5 yX5_leave wsX5_leave) := goodIn_app (goodIn_of _ (by decide +kernel)) ggX5_fault_X5_leave
theorem dX5_fault_0 : decode cX5_fault 0 = .ok (.aload_n 0, 1) := by decide +kernel
theorem dX5_fault_1 : decode cX5_fault 1 = .ok (.aload_n 0, 1) := by decide +kernel
theorem dX5_fault_2 : decode cX5_fault 2 = .ok (.iload_n 1, 1) := by decide +kernel
theorem dX5_fault_3 : decode cX5_fault 3 = .ok (.invokevirtual 132, 3) := by decide +kernel
theorem dX5_fault_6 : decode cX5_fault 6 = .ok (.ifCond .eq 7, 3) := by decide +kernel
theorem dX5_fault_9 : decode cX5_fault 9 = .ok (.iconst 0, 1) := by decide +kernel
theorem dX5_fault_10 : decode cX5_fault 10 = .ok (.goto 4, 3) := by decide +kernel
theorem dX5_fault_13 : decode cX5_fault 13 = .ok (.iconst 1, 1) := by decide +kernel
theorem dX5_fault_14 : decode cX5_fault 14 = .ok (.putfield 82, 3) := by decide +kernel
theorem dX5_fault_17 : decode cX5_fault 17 = .ok (.aload_n 0, 1) := by decide +kernel
theorem dX5_fault_18 : decode cX5_fault 18 = .ok (.getfield 82, 3) := by decide +kernel
theorem dX5_fault_21 : decode cX5_fault 21 = .ok (.ifCond .gt 13, 3) := by decide +kernel
theorem dX5_fault_24 : decode cX5_fault 24 = .ok (.aload_n 0, 1) := by decide +kernel
theorem dX5_fault_25 : decode cX5_fault 25 = .ok (.getfield 19, 3) := by decide +kernel
theorem dX5_fault_28 : decode cX5_fault 28 = .ok (.iload_n 1, 1) := by decide +kernel
theorem dX5_fault_29 : decode cX5_fault 29 = .ok (.iaload, 1) := by decide +kernel
theorem dX5_fault_30 : decode cX5_fault 30 = .ok (.iconst (-1), 1) := by decide +kernel
theorem dX5_fault_31 : decode cX5_fault 31 = .ok (.if_icmp .ne 5, 3) := by decide +kernel
theorem dX5_fault_34 : decode cX5_fault 34 = .ok (.iconst 0, 1) := by decide +kernel
theorem dX5_fault_35 : decode cX5_fault 35 = .ok (.ireturn, 1) := by decide +kernel
theorem dX5_fault_36 : decode cX5_fault 36 = .ok (.aload_n 0, 1) := by decide +kernel
theorem dX5_fault_37 : decode cX5_fault 37 = .ok (.getfield 19, 3) := by decide +kernel
theorem dX5_fault_40 : decode cX5_fault 40 = .ok (.iload_n 1, 1) := by decide +kernel
theorem dX5_fault_41 : decode cX5_fault 41 = .ok (.iaload, 1) := by decide +kernel
theorem dX5_fault_42 : decode cX5_fault 42 = .ok (.istore_n 2, 1) := by decide +kernel
theorem dX5_fault_43 : decode cX5_fault 43 = .ok (.aload_n 0, 1) := by decide +kernel
theorem dX5_fault_44 : decode cX5_fault 44 = .ok (.getfield 51, 3) := by decide +kernel
theorem dX5_fault_47 : decode cX5_fault 47 = .ok (.iload_n 2, 1) := by decide +kernel
theorem dX5_fault_48 : decode cX5_fault 48 = .ok (.iaload, 1) := by decide +kernel
theorem dX5_fault_49 : decode cX5_fault 49 = .ok (.istore_n 3, 1) := by decide +kernel
theorem dX5_fault_50 : decode cX5_fault 50 = .ok (.aload_n 0, 1) := by decide +kernel
theorem dX5_fault_51 : decode cX5_fault 51 = .ok (.getfield 63, 3) := by decide +kernel
theorem dX5_fault_54 : decode cX5_fault 54 = .ok (.iload_n 2, 1) := by decide +kernel
theorem dX5_fault_55 : decode cX5_fault 55 = .ok (.iaload, 1) := by decide +kernel
theorem dX5_fault_56 : decode cX5_fault 56 = .ok (.aload_n 0, 1) := by decide +kernel
theorem dX5_fault_57 : decode cX5_fault 57 = .ok (.getfield 35, 3) := by decide +kernel
theorem dX5_fault_60 : decode cX5_fault 60 = .ok (.iload_n 3, 1) := by decide +kernel
theorem dX5_fault_61 : decode cX5_fault 61 = .ok (.iaload, 1) := by decide +kernel
theorem dX5_fault_62 : decode cX5_fault 62 = .ok (.irem, 1) := by decide +kernel
theorem dX5_fault_63 : decode cX5_fault 63 = .ok (.istore 4, 2) := by decide +kernel
theorem dX5_fault_65 : decode cX5_fault 65 = .ok (.iload 4, 2) := by decide +kernel
theorem dX5_fault_67 : decode cX5_fault 67 = .ok (.ifCond .le 83, 3) := by decide +kernel
theorem dX5_fault_70 : decode cX5_fault 70 = .ok (.aload_n 0, 1) := by decide +kernel
theorem dX5_fault_71 : decode cX5_fault 71 = .ok (.getfield 72, 3) := by decide +kernel
theorem dX5_fault_74 : decode cX5_fault 74 = .ok (.aload_n 0, 1) := by decide +kernel
theorem dX5_fault_75 : decode cX5_fault 75 = .ok (.getfield 156, 3) := by decide +kernel
theorem dX5_fault_78 : decode cX5_fault 78 = .ok (.iload_n 3, 1) := by decide +kernel
theorem dX5_fault_79 : decode cX5_fault 79 = .ok (.iastore, 1) := by decide +kernel
theorem dX5_fault_80 : decode cX5_fault 80 = .ok (.aload_n 0, 1) := by decide +kernel
theorem dX5_fault_81 : decode cX5_fault 81 = .ok (.getfield 75, 3) := by decide +kernel
theorem dX5_fault_84 : decode cX5_fault 84 = .ok (.aload_n 0, 1) := by decide +kernel
theorem dX5_fault_85 : decode cX5_fault 85 = .ok (.getfield 156, 3) := by decide +kernel
theorem dX5_fault_88 : decode cX5_fault 88 = .ok (.sipush 1000, 3) := by decide +kernel
theorem dX5_fault_91 : decode cX5_fault 91 = .ok (.aload_n 0, 1) := by decide +kernel
theorem dX5_fault_92 : decode cX5_fault 92 = .ok (.getfield 63, 3) := by decide +kernel
theorem dX5_fault_95 : decode cX5_fault 95 = .ok (.iload_n 2, 1) := by decide +kernel
theorem dX5_fault_96 : decode cX5_fault 96 = .ok (.iaload, 1) := by decide +kernel
theorem dX5_fault_97 : decode cX5_fault 97 = .ok (.aload_n 0, 1) := by decide +kernel
theorem dX5_fault_98 : decode cX5_fault 98 = .ok (.getfield 35, 3) := by decide +kernel
theorem dX5_fault_101 : decode cX5_fault 101 = .ok (.iload_n 3, 1) := by decide +kernel
theorem dX5_fault_102 : decode cX5_fault 102 = .ok (.iaload, 1) := by decide +kernel
theorem dX5_fault_103 : decode cX5_fault 103 = .ok (.idiv, 1) := by decide +kernel
theorem dX5_fault_104 : decode cX5_fault 104 = .ok (.iconst 1, 1) := by decide +kernel
theorem dX5_fault_105 : decode cX5_fault 105 = .ok (.iadd, 1) := by decide +kernel
theorem dX5_fault_106 : decode cX5_fault 106 = .ok (.imul, 1) := by decide +kernel
theorem dX5_fault_107 : decode cX5_fault 107 = .ok (.iload 4, 2) := by decide +kernel
theorem dX5_fault_109 : decode cX5_fault 109 = .ok (.iadd, 1) := by decide +kernel
theorem dX5_fault_110 : decode cX5_fault 110 = .ok (.iastore, 1) := by decide +kernel
theorem dX5_fault_111 : decode cX5_fault 111 = .ok (.aload_n 0, 1) := by decide +kernel
theorem dX5_fault_112 : decode cX5_fault 112 = .ok (.dup, 1) := by decide +kernel
theorem dX5_fault_113 : decode cX5_fault 113 = .ok (.getfield 156, 3) := by decide +kernel
theorem dX5_fault_116 : decode cX5_fault 116 = .ok (.iconst 1, 1) := by decide +kernel
theorem dX5_fault_117 : decode cX5_fault 117 = .ok (.iadd, 1) := by decide +kernel
theorem dX5_fault_118 : decode cX5_fault 118 = .ok (.putfield 156, 3) := by decide +kernel
theorem dX5_fault_121 : decode cX5_fault 121 = .ok (.aload_n 0, 1) := by decide +kernel
theorem dX5_fault_122 : decode cX5_fault 122 = .ok (.getfield 63, 3) := by decide +kernel
theorem dX5_fault_125 : decode cX5_fault 125 = .ok (.iload_n 2, 1) := by decide +kernel
theorem dX5_fault_126 : decode cX5_fault 126 = .ok (.dup2, 1) := by decide +kernel
theorem dX5_fault_127 : decode cX5_fault 127 = .ok (.iaload, 1) := by decide +kernel
theorem dX5_fault_128 : decode cX5_fault 128 = .ok (.iconst 1, 1) := by decide +kernel
theorem dX5_fault_129 : decode cX5_fault 129 = .ok (.isub, 1) := by decide +kernel
theorem dX5_fault_130 : decode cX5_fault 130 = .ok (.iastore, 1) := by decide +kernel
theorem dX5_fault_131 : decode cX5_fault 131 = .ok (.aload_n 0, 1) := by decide +kernel
theorem dX5_fault_132 : decode cX5_fault 132 = .ok (.getfield 28, 3) := by decide +kernel
theorem dX5_fault_135 : decode cX5_fault 135 = .ok (.iconst 4, 1) := by decide +kernel
theorem dX5_fault_136 : decode cX5_fault 136 = .ok (.aload_n 0, 1) := by decide +kernel
theorem dX5_fault_137 : decode cX5_fault 137 = .ok (.getfield 32, 3) := by decide +kernel
theorem dX5_fault_140 : decode cX5_fault 140 = .ok (.iload_n 3, 1) := by decide +kernel
theorem dX5_fault_141 : decode cX5_fault 141 = .ok (.iaload, 1) := by decide +kernel
theorem dX5_fault_142 : decode cX5_fault 142 = .ok (.imul, 1) := by decide +kernel
theorem dX5_fault_143 : decode cX5_fault 143 = .ok (.iconst 1, 1) := by decide +kernel
theorem dX5_fault_144 : decode cX5_fault 144 = .ok (.isub, 1) := by decide +kernel
theorem dX5_fault_145 : decode cX5_fault 145 = .ok (.dup2, 1) := by decide +kernel
theorem dX5_fault_146 : decode cX5_fault 146 = .ok (.laload, 1) := by decide +kernel
theorem dX5_fault_147 : decode cX5_fault 147 = .ok (.lconst 1, 1) := by decide +kernel
theorem dX5_fault_148 : decode cX5_fault 148 = .ok (.ladd, 1) := by decide +kernel
theorem dX5_fault_149 : decode cX5_fault 149 = .ok (.lastore, 1) := by decide +kernel
theorem dX5_fault_150 : decode cX5_fault 150 = .ok (.aload_n 0, 1) := by decide +kernel
theorem dX5_fault_151 : decode cX5_fault 151 = .ok (.iload_n 1, 1) := by decide +kernel
theorem dX5_fault_152 : decode cX5_fault 152 = .ok (.invokevirtual 152, 3) := by decide +kernel
theorem dX5_fault_155 : decode cX5_fault 155 = .ok (.aload_n 0, 1) := by decide +kernel
theorem dX5_fault_156 : decode cX5_fault 156 = .ok (.getfield 69, 3) := by decide +kernel
theorem dX5_fault_159 : decode cX5_fault 159 = .ok (.iload_n 2, 1) := by decide +kernel
theorem dX5_fault_160 : decode cX5_fault 160 = .ok (.iconst 1, 1) := by decide +kernel
theorem dX5_fault_161 : decode cX5_fault 161 = .ok (.bastore, 1) := by decide +kernel
theorem dX5_fault_162 : decode cX5_fault 162 = .ok (.aload_n 0, 1) := by decide +kernel
theorem dX5_fault_163 : decode cX5_fault 163 = .ok (.getfield 63, 3) := by decide +kernel
theorem dX5_fault_166 : decode cX5_fault 166 = .ok (.iload_n 2, 1) := by decide +kernel
theorem dX5_fault_167 : decode cX5_fault 167 = .ok (.iaload, 1) := by decide +kernel
theorem dX5_fault_168 : decode cX5_fault 168 = .ok (.aload_n 0, 1) := by decide +kernel
theorem dX5_fault_169 : decode cX5_fault 169 = .ok (.getfield 35, 3) := by decide +kernel
theorem dX5_fault_172 : decode cX5_fault 172 = .ok (.iload_n 3, 1) := by decide +kernel
theorem dX5_fault_173 : decode cX5_fault 173 = .ok (.iaload, 1) := by decide +kernel
theorem dX5_fault_174 : decode cX5_fault 174 = .ok (.irem, 1) := by decide +kernel
theorem dX5_fault_175 : decode cX5_fault 175 = .ok (.iconst 1, 1) := by decide +kernel
theorem dX5_fault_176 : decode cX5_fault 176 = .ok (.iadd, 1) := by decide +kernel
theorem dX5_fault_177 : decode cX5_fault 177 = .ok (.ireturn, 1) := by decide +kernel
set_option maxRecDepth 20000 in
theorem ggX5_hold_X5_isJob : GoodIn wsX5_hold wsX5_isJob := goodIn_r _ [7, 8, 9, 10, 6, 11, 12, 13, 14, 15, 16, 17, 18, 19, 20, 21, 22, 23, 24, 25, 26, 27, 28, 29, 30, 31, 32, 33, 34, 35, 36, 37, 38, 39, 40, 41] (by decide +kernel) (by decide +kernel)
set_option maxRecDepth 20000 in
theorem gX5_hold_X5_isJob : GoodIn wsX5_hold (wsV RX5 159 RX5 yX5_isJob wsX5_isJob) := goodIn_app (goodIn_of _ (by decide +kernel)) ggX5_hold_X5_isJob
theorem dX5_hold_0 : decode cX5_hold 0 = .ok (.aload_n 0, 1) := by decide +kernel
theorem dX5_hold_1 : decode cX5_hold 1 = .ok (.aload_n 0, 1) := by decide +kernel
theorem dX5_hold_2 : decode cX5_hold 2 = .ok (.iload_n 1, 1) := by decide +kernel
theorem dX5_hold_3 : decode cX5_hold 3 = .ok (.invokevirtual 159, 3) := by decide +kernel
theorem dX5_hold_6 : decode cX5_hold 6 = .ok (.ifCond .eq 7, 3) := by decide +kernel
theorem dX5_hold_9 : decode cX5_hold 9 = .ok (.iconst 0, 1) := by decide +kernel
theorem dX5_hold_10 : decode cX5_hold 10 = .ok (.goto 4, 3) := by decide +kernel
theorem dX5_hold_13 : decode cX5_hold 13 = .ok (.iconst 1, 1) := by decide +kernel
theorem dX5_hold_14 : decode cX5_hold 14 = .ok (.putfield 82, 3) := by decide +kernel
theorem dX5_hold_17 : decode cX5_hold 17 = .ok (.aload_n 0, 1) := by decide +kernel
theorem dX5_hold_18 : decode cX5_hold 18 = .ok (.getfield 82, 3) := by decide +kernel
theorem dX5_hold_21 : decode cX5_hold 21 = .ok (.ifCond .le 5, 3) := by decide +kernel
theorem dX5_hold_24 : decode cX5_hold 24 = .ok (.iconst 0, 1) := by decide +kernel
theorem dX5_hold_25 : decode cX5_hold 25 = .ok (.ireturn, 1) := by decide +kernel
theorem dX5_hold_26 : decode cX5_hold 26 = .ok (.aload_n 0, 1) := by decide +kernel
theorem dX5_hold_27 : decode cX5_hold 27 = .ok (.getfield 44, 3) := by decide +kernel
theorem dX5_hold_30 : decode cX5_hold 30 = .ok (.iload_n 1, 1) := by decide +kernel
theorem dX5_hold_31 : decode cX5_hold 31 = .ok (.baload, 1) := by decide +kernel
theorem dX5_hold_32 : decode cX5_hold 32 = .ok (.ifCond .eq 7, 3) := by decide +kernel
theorem dX5_hold_35 : decode cX5_hold 35 = .ok (.iconst 1, 1) := by decide +kernel
theorem dX5_hold_36 : decode cX5_hold 36 = .ok (.goto 4, 3) := by decide +kernel
theorem dX5_hold_39 : decode cX5_hold 39 = .ok (.iconst 0, 1) := by decide +kernel
theorem dX5_hold_40 : decode cX5_hold 40 = .ok (.istore_n 3, 1) := by decide +kernel
theorem dX5_hold_41 : decode cX5_hold 41 = .ok (.aload_n 0, 1) := by decide +kernel
theorem dX5_hold_42 : decode cX5_hold 42 = .ok (.getfield 44, 3) := by decide +kernel
theorem dX5_hold_45 : decode cX5_hold 45 = .ok (.iload_n 1, 1) := by decide +kernel
theorem dX5_hold_46 : decode cX5_hold 46 = .ok (.iload_n 2, 1) := by decide +kernel
theorem dX5_hold_47 : decode cX5_hold 47 = .ok (.bastore, 1) := by decide +kernel
theorem dX5_hold_48 : decode cX5_hold 48 = .ok (.iload_n 3, 1) := by decide +kernel
theorem dX5_hold_49 : decode cX5_hold 49 = .ok (.ireturn, 1) := by decide +kernel
set_option maxRecDepth 20000 in
theorem ggX5_stateOf_X5_isOver : GoodIn wsX5_stateOf wsX5_isOver := goodIn_r _ [9, 10, 11, 12, 3, 13, 14, 15, 16, 17, 18, 19, 20, 21, 22, 23, 24, 25, 26, 27, 28, 29, 30, 31, 32, 33, 34, 35, 36, 37, 38, 39, 40, 41, 42] (by decide +kernel) (by decide +kernel)
set_option maxRecDepth 20000 in
theorem gX5_stateOf_X5_isOver : GoodIn wsX5_stateOf (wsV RX5 149 RX5 yX5_isOver wsX5_isOver) := goodIn_app (goodIn_of _ (by decide +kernel)) ggX5_stateOf_X5_isOver
theorem dX5_stateOf_0 : decode cX5_stateOf 0 = .ok (.aload_n 0, 1) := by decide +kernel
theorem dX5_stateOf_1 : decode cX5_stateOf 1 = .ok (.getfield 48, 3) := by decide +kernel
theorem dX5_stateOf_4 : decode cX5_stateOf 4 = .ok (.iload_n 1, 1) := by decide +kernel
theorem dX5_stateOf_5 : decode cX5_stateOf 5 = .ok (.baload, 1) := by decide +kernel
theorem dX5_stateOf_6 : decode cX5_stateOf 6 = .ok (.ifCond .eq 5, 3) := by decide +kernel
theorem dX5_stateOf_9 : decode cX5_stateOf 9 = .ok (.iconst 3, 1) := by decide +kernel
theorem dX5_stateOf_10 : decode cX5_stateOf 10 = .ok (.ireturn, 1) := by decide +kernel
theorem dX5_stateOf_11 : decode cX5_stateOf 11 = .ok (.iconst 0, 1) := by decide +kernel
theorem dX5_stateOf_12 : decode cX5_stateOf 12 = .ok (.istore_n 2, 1) := by decide +kernel
theorem dX5_stateOf_13 : decode cX5_stateOf 13 = .ok (.iconst 1, 1) := by decide +kernel
theorem dX5_stateOf_14 : decode cX5_stateOf 14 = .ok (.istore_n 3, 1) := by decide +kernel
theorem dX5_stateOf_15 : decode cX5_stateOf 15 = .ok (.iconst 0, 1) := by decide +kernel
theorem dX5_stateOf_16 : decode cX5_stateOf 16 = .ok (.istore 4, 2) := by decide +kernel
theorem dX5_stateOf_18 : decode cX5_stateOf 18 = .ok (.iload 4, 2) := by decide +kernel
theorem dX5_stateOf_20 : decode cX5_stateOf 20 = .ok (.aload_n 0, 1) := by decide +kernel
theorem dX5_stateOf_21 : decode cX5_stateOf 21 = .ok (.getfield 101, 3) := by decide +kernel
theorem dX5_stateOf_24 : decode cX5_stateOf 24 = .ok (.if_icmp .ge 59, 3) := by decide +kernel
theorem dX5_stateOf_27 : decode cX5_stateOf 27 = .ok (.aload_n 0, 1) := by decide +kernel
theorem dX5_stateOf_28 : decode cX5_stateOf 28 = .ok (.getfield 51, 3) := by decide +kernel
theorem dX5_stateOf_31 : decode cX5_stateOf 31 = .ok (.iload 4, 2) := by decide +kernel
theorem dX5_stateOf_33 : decode cX5_stateOf 33 = .ok (.iaload, 1) := by decide +kernel
theorem dX5_stateOf_34 : decode cX5_stateOf 34 = .ok (.iload_n 1, 1) := by decide +kernel
theorem dX5_stateOf_35 : decode cX5_stateOf 35 = .ok (.if_icmp .ne 42, 3) := by decide +kernel
theorem dX5_stateOf_38 : decode cX5_stateOf 38 = .ok (.iload_n 2, 1) := by decide +kernel
theorem dX5_stateOf_39 : decode cX5_stateOf 39 = .ok (.ifCond .ne 13, 3) := by decide +kernel
theorem dX5_stateOf_42 : decode cX5_stateOf 42 = .ok (.aload_n 0, 1) := by decide +kernel
theorem dX5_stateOf_43 : decode cX5_stateOf 43 = .ok (.getfield 60, 3) := by decide +kernel
theorem dX5_stateOf_46 : decode cX5_stateOf 46 = .ok (.iload 4, 2) := by decide +kernel
theorem dX5_stateOf_48 : decode cX5_stateOf 48 = .ok (.iaload, 1) := by decide +kernel
theorem dX5_stateOf_49 : decode cX5_stateOf 49 = .ok (.ifCond .le 7, 3) := by decide +kernel
theorem dX5_stateOf_52 : decode cX5_stateOf 52 = .ok (.iconst 1, 1) := by decide +kernel
theorem dX5_stateOf_53 : decode cX5_stateOf 53 = .ok (.goto 4, 3) := by decide +kernel
theorem dX5_stateOf_56 : decode cX5_stateOf 56 = .ok (.iconst 0, 1) := by decide +kernel
theorem dX5_stateOf_57 : decode cX5_stateOf 57 = .ok (.istore_n 2, 1) := by decide +kernel
theorem dX5_stateOf_58 : decode cX5_stateOf 58 = .ok (.iload_n 3, 1) := by decide +kernel
theorem dX5_stateOf_59 : decode cX5_stateOf 59 = .ok (.ifCond .eq 16, 3) := by decide +kernel
theorem dX5_stateOf_62 : decode cX5_stateOf 62 = .ok (.aload_n 0, 1) := by decide +kernel
theorem dX5_stateOf_63 : decode cX5_stateOf 63 = .ok (.iload 4, 2) := by decide +kernel
theorem dX5_stateOf_65 : decode cX5_stateOf 65 = .ok (.invokevirtual 149, 3) := by decide +kernel
theorem dX5_stateOf_68 : decode cX5_stateOf 68 = .ok (.ifCond .eq 7, 3) := by decide +kernel
theorem dX5_stateOf_71 : decode cX5_stateOf 71 = .ok (.iconst 1, 1) := by decide +kernel
theorem dX5_stateOf_72 : decode cX5_stateOf 72 = .ok (.goto 4, 3) := by decide +kernel
theorem dX5_stateOf_75 : decode cX5_stateOf 75 = .ok (.iconst 0, 1) := by decide +kernel
theorem dX5_stateOf_76 : decode cX5_stateOf 76 = .ok (.istore_n 3, 1) := by decide +kernel
theorem dX5_stateOf_77 : decode cX5_stateOf 77 = .ok (.iinc 4 1, 3) := by decide +kernel
theorem dX5_stateOf_80 : decode cX5_stateOf 80 = .ok (.goto (-62), 3) := by decide +kernel
theorem dX5_stateOf_83 : decode cX5_stateOf 83 = .ok (.iload_n 2, 1) := by decide +kernel
theorem dX5_stateOf_84 : decode cX5_stateOf 84 = .ok (.ifCond .eq 7, 3) := by decide +kernel
theorem dX5_stateOf_87 : decode cX5_stateOf 87 = .ok (.iconst 1, 1) := by decide +kernel
theorem dX5_stateOf_88 : decode cX5_stateOf 88 = .ok (.goto 12, 3) := by decide +kernel
theorem dX5_stateOf_91 : decode cX5_stateOf 91 = .ok (.iload_n 3, 1) := by decide +kernel
theorem dX5_stateOf_92 : decode cX5_stateOf 92 = .ok (.ifCond .eq 7, 3) := by decide +kernel
theorem dX5_stateOf_95 : decode cX5_stateOf 95 = .ok (.iconst 2, 1) := by decide +kernel
theorem dX5_stateOf_96 : decode cX5_stateOf 96 = .ok (.goto 4, 3) := by decide +kernel
theorem dX5_stateOf_99 : decode cX5_stateOf 99 = .ok (.iconst 0, 1) := by decide +kernel
theorem dX5_stateOf_100 : decode cX5_stateOf 100 = .ok (.ireturn, 1) := by decide +kernel
set_option maxRecDepth 20000 in
theorem ggX5_cancel_X5_isJob : GoodIn wsX5_cancel wsX5_isJob := goodIn_r _ [11, 12, 13, 14, 10, 15, 32, 33, 34, 35, 36, 37, 38, 39, 40, 41, 42, 43, 44, 45, 46, 47, 48, 49, 50, 51, 52, 53, 54, 55, 56, 57, 58, 59, 60, 61] (by decide +kernel) (by decide +kernel)
set_option maxRecDepth 20000 in
theorem gX5_cancel_X5_isJob : GoodIn wsX5_cancel (wsV RX5 159 RX5 yX5_isJob wsX5_isJob) := goodIn_app (goodIn_of _ (by decide +kernel)) ggX5_cancel_X5_isJob
set_option maxRecDepth 20000 in
theorem ggX5_cancel_X5_stateOf : GoodIn wsX5_cancel wsX5_stateOf := goodIn_r _ [19, 6, 2, 3, 5, 20, 21, 22, 10, 23, 24, 25, 26, 32, 33, 34, 35, 36, 37, 38, 39, 40, 41, 42, 43, 44, 45, 46, 47, 48, 49, 50, 51, 52, 53, 54, 55, 56, 57, 58, 59, 60, 61] (by decide +kernel) (by decide +kernel)
set_option maxRecDepth 20000 in
theorem gX5_cancel_X5_stateOf : GoodIn wsX5_cancel (wsV RX5 162 RX5 yX5_stateOf wsX5_stateOf) := goodIn_app (goodIn_of _ (by decide +kernel)) ggX5_cancel_X5_stateOf
set_option maxRecDepth 20000 in
theorem ggX5_cancel_X5_isOver : GoodIn wsX5_cancel wsX5_isOver := goodIn_r _ [23, 24, 25, 26, 3, 32, 33, 34, 35, 36, 37, 38, 39, 40, 41, 42, 43, 44, 45, 46, 47, 48, 49, 50, 51, 52, 53, 54, 55, 56, 57, 58, 59, 60, 61] (by decide +kernel) (by decide +kernel)
set_option maxRecDepth 20000 in
theorem gX5_cancel_X5_isOver : GoodIn wsX5_cancel (wsV RX5 149 RX5 yX5_isOver wsX5_isOver) := goodIn_app (goodIn_of _ (by decide +kernel)) ggX5_cancel_X5_isOver
set_option maxRecDepth 20000 in
theorem ggX5_cancel_X5_leave : GoodIn wsX5_cancel wsX5_leave := goodIn_r _ [30, 5, 31, 32, 33, 34, 35, 36, 37, 38, 39, 40, 41, 42, 43, 44, 45, 46, 47, 48, 49, 50, 51, 52, 53, 54, 55, 56, 57, 58, 59, 60, 61] (by decide +kernel) (by decide +kernel)
set_option maxRecDepth 20000 in
theorem gX5_cancel_X5_leave : GoodIn wsX5_cancel (wsV RX5 152 RX5 yX5_leave wsX5_leave) := goodIn_app (goodIn_of _ (by decide +kernel)) ggX5_cancel_X5_leave
theorem dX5_cancel_0 : decode cX5_cancel 0 = .ok (.aload_n 0, 1) := by decide +kernel
theorem dX5_cancel_1 : decode cX5_cancel 1 = .ok (.aload_n 0, 1) := by decide +kernel
theorem dX5_cancel_2 : decode cX5_cancel 2 = .ok (.iload_n 1, 1) := by decide +kernel
theorem dX5_cancel_3 : decode cX5_cancel 3 = .ok (.invokevirtual 159, 3) := by decide +kernel
theorem dX5_cancel_6 : decode cX5_cancel 6 = .ok (.ifCond .eq 7, 3) := by decide +kernel
theorem dX5_cancel_9 : decode cX5_cancel 9 = .ok (.iconst 0, 1) := by decide +kernel
theorem dX5_cancel_10 : decode cX5_cancel 10 = .ok (.goto 4, 3) := by decide +kernel
theorem dX5_cancel_13 : decode cX5_cancel 13 = .ok (.iconst 1, 1) := by decide +kernel
theorem dX5_cancel_14 : decode cX5_cancel 14 = .ok (.putfield 82, 3) := by decide +kernel
theorem dX5_cancel_17 : decode cX5_cancel 17 = .ok (.aload_n 0, 1) := by decide +kernel
theorem dX5_cancel_18 : decode cX5_cancel 18 = .ok (.getfield 82, 3) := by decide +kernel
theorem dX5_cancel_21 : decode cX5_cancel 21 = .ok (.ifCond .gt 12, 3) := by decide +kernel
theorem dX5_cancel_24 : decode cX5_cancel 24 = .ok (.aload_n 0, 1) := by decide +kernel
theorem dX5_cancel_25 : decode cX5_cancel 25 = .ok (.iload_n 1, 1) := by decide +kernel
theorem dX5_cancel_26 : decode cX5_cancel 26 = .ok (.invokevirtual 162, 3) := by decide +kernel
theorem dX5_cancel_29 : decode cX5_cancel 29 = .ok (.iconst 1, 1) := by decide +kernel
theorem dX5_cancel_30 : decode cX5_cancel 30 = .ok (.if_icmp .le 5, 3) := by decide +kernel
theorem dX5_cancel_33 : decode cX5_cancel 33 = .ok (.iconst 0, 1) := by decide +kernel
theorem dX5_cancel_34 : decode cX5_cancel 34 = .ok (.ireturn, 1) := by decide +kernel
theorem dX5_cancel_35 : decode cX5_cancel 35 = .ok (.iconst 0, 1) := by decide +kernel
theorem dX5_cancel_36 : decode cX5_cancel 36 = .ok (.istore_n 2, 1) := by decide +kernel
theorem dX5_cancel_37 : decode cX5_cancel 37 = .ok (.iconst 0, 1) := by decide +kernel
theorem dX5_cancel_38 : decode cX5_cancel 38 = .ok (.istore_n 3, 1) := by decide +kernel
theorem dX5_cancel_39 : decode cX5_cancel 39 = .ok (.iload_n 3, 1) := by decide +kernel
theorem dX5_cancel_40 : decode cX5_cancel 40 = .ok (.aload_n 0, 1) := by decide +kernel
theorem dX5_cancel_41 : decode cX5_cancel 41 = .ok (.getfield 101, 3) := by decide +kernel
theorem dX5_cancel_44 : decode cX5_cancel 44 = .ok (.if_icmp .ge 56, 3) := by decide +kernel
theorem dX5_cancel_47 : decode cX5_cancel 47 = .ok (.aload_n 0, 1) := by decide +kernel
theorem dX5_cancel_48 : decode cX5_cancel 48 = .ok (.getfield 51, 3) := by decide +kernel
theorem dX5_cancel_51 : decode cX5_cancel 51 = .ok (.iload_n 3, 1) := by decide +kernel
theorem dX5_cancel_52 : decode cX5_cancel 52 = .ok (.iaload, 1) := by decide +kernel
theorem dX5_cancel_53 : decode cX5_cancel 53 = .ok (.iload_n 1, 1) := by decide +kernel
theorem dX5_cancel_54 : decode cX5_cancel 54 = .ok (.if_icmp .ne 40, 3) := by decide +kernel
theorem dX5_cancel_57 : decode cX5_cancel 57 = .ok (.aload_n 0, 1) := by decide +kernel
theorem dX5_cancel_58 : decode cX5_cancel 58 = .ok (.iload_n 3, 1) := by decide +kernel
theorem dX5_cancel_59 : decode cX5_cancel 59 = .ok (.invokevirtual 149, 3) := by decide +kernel
theorem dX5_cancel_62 : decode cX5_cancel 62 = .ok (.ifCond .ne 32, 3) := by decide +kernel
theorem dX5_cancel_65 : decode cX5_cancel 65 = .ok (.iinc 2 1, 3) := by decide +kernel
theorem dX5_cancel_68 : decode cX5_cancel 68 = .ok (.aload_n 0, 1) := by decide +kernel
theorem dX5_cancel_69 : decode cX5_cancel 69 = .ok (.getfield 69, 3) := by decide +kernel
theorem dX5_cancel_72 : decode cX5_cancel 72 = .ok (.iload_n 3, 1) := by decide +kernel
theorem dX5_cancel_73 : decode cX5_cancel 73 = .ok (.iconst 0, 1) := by decide +kernel
theorem dX5_cancel_74 : decode cX5_cancel 74 = .ok (.bastore, 1) := by decide +kernel
theorem dX5_cancel_75 : decode cX5_cancel 75 = .ok (.aload_n 0, 1) := by decide +kernel
theorem dX5_cancel_76 : decode cX5_cancel 76 = .ok (.getfield 60, 3) := by decide +kernel
theorem dX5_cancel_79 : decode cX5_cancel 79 = .ok (.iload_n 3, 1) := by decide +kernel
theorem dX5_cancel_80 : decode cX5_cancel 80 = .ok (.iaload, 1) := by decide +kernel
theorem dX5_cancel_81 : decode cX5_cancel 81 = .ok (.ifCond .le 13, 3) := by decide +kernel
theorem dX5_cancel_84 : decode cX5_cancel 84 = .ok (.aload_n 0, 1) := by decide +kernel
theorem dX5_cancel_85 : decode cX5_cancel 85 = .ok (.aload_n 0, 1) := by decide +kernel
theorem dX5_cancel_86 : decode cX5_cancel 86 = .ok (.getfield 60, 3) := by decide +kernel
theorem dX5_cancel_89 : decode cX5_cancel 89 = .ok (.iload_n 3, 1) := by decide +kernel
theorem dX5_cancel_90 : decode cX5_cancel 90 = .ok (.iaload, 1) := by decide +kernel
theorem dX5_cancel_91 : decode cX5_cancel 91 = .ok (.invokevirtual 152, 3) := by decide +kernel
theorem dX5_cancel_94 : decode cX5_cancel 94 = .ok (.iinc 3 1, 3) := by decide +kernel
theorem dX5_cancel_97 : decode cX5_cancel 97 = .ok (.goto (-58), 3) := by decide +kernel
theorem dX5_cancel_100 : decode cX5_cancel 100 = .ok (.aload_n 0, 1) := by decide +kernel
theorem dX5_cancel_101 : decode cX5_cancel 101 = .ok (.getfield 48, 3) := by decide +kernel
theorem dX5_cancel_104 : decode cX5_cancel 104 = .ok (.iload_n 1, 1) := by decide +kernel
theorem dX5_cancel_105 : decode cX5_cancel 105 = .ok (.iconst 1, 1) := by decide +kernel
theorem dX5_cancel_106 : decode cX5_cancel 106 = .ok (.bastore, 1) := by decide +kernel
theorem dX5_cancel_107 : decode cX5_cancel 107 = .ok (.iload_n 2, 1) := by decide +kernel
theorem dX5_cancel_108 : decode cX5_cancel 108 = .ok (.ireturn, 1) := by decide +kernel
set_option maxRecDepth 20000 in
theorem ggX5_state_X5_isJob : GoodIn wsX5_state wsX5_isJob := goodIn_r _ [12, 13, 14, 15, 11, 16, 28, 29, 30, 31, 32, 33, 34, 35, 36, 37, 38, 39, 40, 41, 42, 43, 44, 45, 46, 47, 48, 49, 50, 51, 52, 53, 54, 55, 56, 57] (by decide +kernel) (by decide +kernel)
set_option maxRecDepth 20000 in
theorem gX5_state_X5_isJob : GoodIn wsX5_state (wsV RX5 159 RX5 yX5_isJob wsX5_isJob) := goodIn_app (goodIn_of _ (by decide +kernel)) ggX5_state_X5_isJob
set_option maxRecDepth 20000 in
theorem ggX5_state_X5_in : GoodIn wsX5_state wsX5_in := goodIn_r _ [16] (by decide +kernel) (by decide +kernel)
set_option maxRecDepth 20000 in
theorem gX5_state_X5_in : GoodIn wsX5_state (va_wsS RX5 87 yX5_in wsX5_in) := goodIn_app (goodIn_of _ (by decide +kernel)) ggX5_state_X5_in
set_option maxRecDepth 20000 in
theorem ggX5_state_X5_stateOf : GoodIn wsX5_state wsX5_stateOf := goodIn_r _ [20, 21, 4, 5, 22, 23, 24, 25, 11, 26, 6, 27, 7, 28, 29, 30, 31, 32, 33, 34, 35, 36, 37, 38, 39, 40, 41, 42, 43, 44, 45, 46, 47, 48, 49, 50, 51, 52, 53, 54, 55, 56, 57] (by decide +kernel) (by decide +kernel)
set_option maxRecDepth 20000 in
theorem gX5_state_X5_stateOf : GoodIn wsX5_state (wsV RX5 162 RX5 yX5_stateOf wsX5_stateOf) := goodIn_app (goodIn_of _ (by decide +kernel)) ggX5_state_X5_stateOf
theorem dX5_state_0 : decode cX5_state 0 = .ok (.aload_n 0, 1) := by decide +kernel
theorem dX5_state_1 : decode cX5_state 1 = .ok (.aload_n 0, 1) := by decide +kernel
theorem dX5_state_2 : decode cX5_state 2 = .ok (.iload_n 1, 1) := by decide +kernel
theorem dX5_state_3 : decode cX5_state 3 = .ok (.invokevirtual 159, 3) := by decide +kernel
theorem dX5_state_6 : decode cX5_state 6 = .ok (.ifCond .ne 7, 3) := by decide +kernel
theorem dX5_state_9 : decode cX5_state 9 = .ok (.iconst 1, 1) := by decide +kernel
theorem dX5_state_10 : decode cX5_state 10 = .ok (.goto 20, 3) := by decide +kernel
theorem dX5_state_13 : decode cX5_state 13 = .ok (.iload_n 2, 1) := by decide +kernel
theorem dX5_state_14 : decode cX5_state 14 = .ok (.i2l, 1) := by decide +kernel
theorem dX5_state_15 : decode cX5_state 15 = .ok (.lconst 0, 1) := by decide +kernel
theorem dX5_state_16 : decode cX5_state 16 = .ok (.ldc2_w 165, 3) := by decide +kernel
theorem dX5_state_19 : decode cX5_state 19 = .ok (.invokestatic 87, 3) := by decide +kernel
theorem dX5_state_22 : decode cX5_state 22 = .ok (.ifCond .ne 7, 3) := by decide +kernel
theorem dX5_state_25 : decode cX5_state 25 = .ok (.iconst 2, 1) := by decide +kernel
theorem dX5_state_26 : decode cX5_state 26 = .ok (.goto 4, 3) := by decide +kernel
theorem dX5_state_29 : decode cX5_state 29 = .ok (.iconst 0, 1) := by decide +kernel
theorem dX5_state_30 : decode cX5_state 30 = .ok (.putfield 82, 3) := by decide +kernel
theorem dX5_state_33 : decode cX5_state 33 = .ok (.aload_n 0, 1) := by decide +kernel
theorem dX5_state_34 : decode cX5_state 34 = .ok (.getfield 82, 3) := by decide +kernel
theorem dX5_state_37 : decode cX5_state 37 = .ok (.ifCond .le 5, 3) := by decide +kernel
theorem dX5_state_40 : decode cX5_state 40 = .ok (.iconst 0, 1) := by decide +kernel
theorem dX5_state_41 : decode cX5_state 41 = .ok (.ireturn, 1) := by decide +kernel
theorem dX5_state_42 : decode cX5_state 42 = .ok (.iload_n 2, 1) := by decide +kernel
theorem dX5_state_43 : decode cX5_state 43 = .ok (.ifCond .ne 9, 3) := by decide +kernel
theorem dX5_state_46 : decode cX5_state 46 = .ok (.aload_n 0, 1) := by decide +kernel
theorem dX5_state_47 : decode cX5_state 47 = .ok (.iload_n 1, 1) := by decide +kernel
theorem dX5_state_48 : decode cX5_state 48 = .ok (.invokevirtual 162, 3) := by decide +kernel
theorem dX5_state_51 : decode cX5_state 51 = .ok (.ireturn, 1) := by decide +kernel
theorem dX5_state_52 : decode cX5_state 52 = .ok (.iload_n 2, 1) := by decide +kernel
theorem dX5_state_53 : decode cX5_state 53 = .ok (.iconst 4, 1) := by decide +kernel
theorem dX5_state_54 : decode cX5_state 54 = .ok (.if_icmp .ne 18, 3) := by decide +kernel
theorem dX5_state_57 : decode cX5_state 57 = .ok (.aload_n 0, 1) := by decide +kernel
theorem dX5_state_58 : decode cX5_state 58 = .ok (.getfield 44, 3) := by decide +kernel
theorem dX5_state_61 : decode cX5_state 61 = .ok (.iload_n 1, 1) := by decide +kernel
theorem dX5_state_62 : decode cX5_state 62 = .ok (.baload, 1) := by decide +kernel
theorem dX5_state_63 : decode cX5_state 63 = .ok (.ifCond .eq 7, 3) := by decide +kernel
theorem dX5_state_66 : decode cX5_state 66 = .ok (.iconst 1, 1) := by decide +kernel
theorem dX5_state_67 : decode cX5_state 67 = .ok (.goto 4, 3) := by decide +kernel
theorem dX5_state_70 : decode cX5_state 70 = .ok (.iconst 0, 1) := by decide +kernel
theorem dX5_state_71 : decode cX5_state 71 = .ok (.ireturn, 1) := by decide +kernel
theorem dX5_state_72 : decode cX5_state 72 = .ok (.iconst 0, 1) := by decide +kernel
theorem dX5_state_73 : decode cX5_state 73 = .ok (.istore_n 3, 1) := by decide +kernel
theorem dX5_state_74 : decode cX5_state 74 = .ok (.iconst 0, 1) := by decide +kernel
theorem dX5_state_75 : decode cX5_state 75 = .ok (.istore 4, 2) := by decide +kernel
theorem dX5_state_77 : decode cX5_state 77 = .ok (.iload 4, 2) := by decide +kernel
theorem dX5_state_79 : decode cX5_state 79 = .ok (.aload_n 0, 1) := by decide +kernel
theorem dX5_state_80 : decode cX5_state 80 = .ok (.getfield 101, 3) := by decide +kernel
theorem dX5_state_83 : decode cX5_state 83 = .ok (.if_icmp .ge 61, 3) := by decide +kernel
theorem dX5_state_86 : decode cX5_state 86 = .ok (.aload_n 0, 1) := by decide +kernel
theorem dX5_state_87 : decode cX5_state 87 = .ok (.getfield 51, 3) := by decide +kernel
theorem dX5_state_90 : decode cX5_state 90 = .ok (.iload 4, 2) := by decide +kernel
theorem dX5_state_92 : decode cX5_state 92 = .ok (.iaload, 1) := by decide +kernel
theorem dX5_state_93 : decode cX5_state 93 = .ok (.iload_n 1, 1) := by decide +kernel
theorem dX5_state_94 : decode cX5_state 94 = .ok (.if_icmp .ne 44, 3) := by decide +kernel
theorem dX5_state_97 : decode cX5_state 97 = .ok (.iload_n 3, 1) := by decide +kernel
theorem dX5_state_98 : decode cX5_state 98 = .ok (.iload_n 2, 1) := by decide +kernel
theorem dX5_state_99 : decode cX5_state 99 = .ok (.iconst 1, 1) := by decide +kernel
theorem dX5_state_100 : decode cX5_state 100 = .ok (.if_icmp .ne 13, 3) := by decide +kernel
theorem dX5_state_103 : decode cX5_state 103 = .ok (.aload_n 0, 1) := by decide +kernel
theorem dX5_state_104 : decode cX5_state 104 = .ok (.getfield 63, 3) := by decide +kernel
theorem dX5_state_107 : decode cX5_state 107 = .ok (.iload 4, 2) := by decide +kernel
theorem dX5_state_109 : decode cX5_state 109 = .ok (.iaload, 1) := by decide +kernel
theorem dX5_state_110 : decode cX5_state 110 = .ok (.goto 26, 3) := by decide +kernel
theorem dX5_state_113 : decode cX5_state 113 = .ok (.iload_n 2, 1) := by decide +kernel
theorem dX5_state_114 : decode cX5_state 114 = .ok (.iconst 2, 1) := by decide +kernel
theorem dX5_state_115 : decode cX5_state 115 = .ok (.if_icmp .ne 20, 3) := by decide +kernel
theorem dX5_state_118 : decode cX5_state 118 = .ok (.aload_n 0, 1) := by decide +kernel
theorem dX5_state_119 : decode cX5_state 119 = .ok (.getfield 63, 3) := by decide +kernel
theorem dX5_state_122 : decode cX5_state 122 = .ok (.iload 4, 2) := by decide +kernel
theorem dX5_state_124 : decode cX5_state 124 = .ok (.iaload, 1) := by decide +kernel
theorem dX5_state_125 : decode cX5_state 125 = .ok (.aload_n 0, 1) := by decide +kernel
theorem dX5_state_126 : decode cX5_state 126 = .ok (.getfield 35, 3) := by decide +kernel
theorem dX5_state_129 : decode cX5_state 129 = .ok (.iload_n 1, 1) := by decide +kernel
theorem dX5_state_130 : decode cX5_state 130 = .ok (.iaload, 1) := by decide +kernel
theorem dX5_state_131 : decode cX5_state 131 = .ok (.idiv, 1) := by decide +kernel
theorem dX5_state_132 : decode cX5_state 132 = .ok (.goto 4, 3) := by decide +kernel
theorem dX5_state_135 : decode cX5_state 135 = .ok (.iconst 1, 1) := by decide +kernel
theorem dX5_state_136 : decode cX5_state 136 = .ok (.iadd, 1) := by decide +kernel
theorem dX5_state_137 : decode cX5_state 137 = .ok (.istore_n 3, 1) := by decide +kernel
theorem dX5_state_138 : decode cX5_state 138 = .ok (.iinc 4 1, 3) := by decide +kernel
theorem dX5_state_141 : decode cX5_state 141 = .ok (.goto (-64), 3) := by decide +kernel
theorem dX5_state_144 : decode cX5_state 144 = .ok (.iload_n 3, 1) := by decide +kernel
theorem dX5_state_145 : decode cX5_state 145 = .ok (.ireturn, 1) := by decide +kernel
set_option maxRecDepth 20000 in
theorem ggX5_doubled_X5_isJob : GoodIn wsX5_doubled wsX5_isJob := goodIn_r _ [9, 10, 11, 12, 8, 13, 14, 15, 16, 17, 18, 19, 20, 21, 22, 23, 24, 25, 26, 27, 28, 29, 30, 31, 32, 33, 34, 35, 36, 37, 38, 39, 40, 41, 42, 43] (by decide +kernel) (by decide +kernel)
set_option maxRecDepth 20000 in
theorem gX5_doubled_X5_isJob : GoodIn wsX5_doubled (wsV RX5 159 RX5 yX5_isJob wsX5_isJob) := goodIn_app (goodIn_of _ (by decide +kernel)) ggX5_doubled_X5_isJob
theorem dX5_doubled_0 : decode cX5_doubled 0 = .ok (.aload_n 0, 1) := by decide +kernel
theorem dX5_doubled_1 : decode cX5_doubled 1 = .ok (.aload_n 0, 1) := by decide +kernel
theorem dX5_doubled_2 : decode cX5_doubled 2 = .ok (.iload_n 1, 1) := by decide +kernel
theorem dX5_doubled_3 : decode cX5_doubled 3 = .ok (.invokevirtual 159, 3) := by decide +kernel
theorem dX5_doubled_6 : decode cX5_doubled 6 = .ok (.ifCond .eq 7, 3) := by decide +kernel
theorem dX5_doubled_9 : decode cX5_doubled 9 = .ok (.iconst 0, 1) := by decide +kernel
theorem dX5_doubled_10 : decode cX5_doubled 10 = .ok (.goto 4, 3) := by decide +kernel
theorem dX5_doubled_13 : decode cX5_doubled 13 = .ok (.iconst 1, 1) := by decide +kernel
theorem dX5_doubled_14 : decode cX5_doubled 14 = .ok (.putfield 82, 3) := by decide +kernel
theorem dX5_doubled_17 : decode cX5_doubled 17 = .ok (.aload_n 0, 1) := by decide +kernel
theorem dX5_doubled_18 : decode cX5_doubled 18 = .ok (.getfield 82, 3) := by decide +kernel
theorem dX5_doubled_21 : decode cX5_doubled 21 = .ok (.ifCond .le 5, 3) := by decide +kernel
theorem dX5_doubled_24 : decode cX5_doubled 24 = .ok (.iconst 0, 1) := by decide +kernel
theorem dX5_doubled_25 : decode cX5_doubled 25 = .ok (.ireturn, 1) := by decide +kernel
theorem dX5_doubled_26 : decode cX5_doubled 26 = .ok (.iconst 0, 1) := by decide +kernel
theorem dX5_doubled_27 : decode cX5_doubled 27 = .ok (.istore_n 3, 1) := by decide +kernel
theorem dX5_doubled_28 : decode cX5_doubled 28 = .ok (.iconst (-1), 1) := by decide +kernel
theorem dX5_doubled_29 : decode cX5_doubled 29 = .ok (.istore 4, 2) := by decide +kernel
theorem dX5_doubled_31 : decode cX5_doubled 31 = .ok (.iconst 0, 1) := by decide +kernel
theorem dX5_doubled_32 : decode cX5_doubled 32 = .ok (.istore 5, 2) := by decide +kernel
theorem dX5_doubled_34 : decode cX5_doubled 34 = .ok (.iload 5, 2) := by decide +kernel
theorem dX5_doubled_36 : decode cX5_doubled 36 = .ok (.aload_n 0, 1) := by decide +kernel
theorem dX5_doubled_37 : decode cX5_doubled 37 = .ok (.getfield 156, 3) := by decide +kernel
theorem dX5_doubled_40 : decode cX5_doubled 40 = .ok (.if_icmp .ge 42, 3) := by decide +kernel
theorem dX5_doubled_43 : decode cX5_doubled 43 = .ok (.aload_n 0, 1) := by decide +kernel
theorem dX5_doubled_44 : decode cX5_doubled 44 = .ok (.getfield 72, 3) := by decide +kernel
theorem dX5_doubled_47 : decode cX5_doubled 47 = .ok (.iload 5, 2) := by decide +kernel
theorem dX5_doubled_49 : decode cX5_doubled 49 = .ok (.iaload, 1) := by decide +kernel
theorem dX5_doubled_50 : decode cX5_doubled 50 = .ok (.iload_n 1, 1) := by decide +kernel
theorem dX5_doubled_51 : decode cX5_doubled 51 = .ok (.if_icmp .ne 25, 3) := by decide +kernel
theorem dX5_doubled_54 : decode cX5_doubled 54 = .ok (.iload_n 3, 1) := by decide +kernel
theorem dX5_doubled_55 : decode cX5_doubled 55 = .ok (.iload_n 2, 1) := by decide +kernel
theorem dX5_doubled_56 : decode cX5_doubled 56 = .ok (.if_icmp .ne 13, 3) := by decide +kernel
theorem dX5_doubled_59 : decode cX5_doubled 59 = .ok (.aload_n 0, 1) := by decide +kernel
theorem dX5_doubled_60 : decode cX5_doubled 60 = .ok (.getfield 75, 3) := by decide +kernel
theorem dX5_doubled_63 : decode cX5_doubled 63 = .ok (.iload 5, 2) := by decide +kernel
theorem dX5_doubled_65 : decode cX5_doubled 65 = .ok (.iaload, 1) := by decide +kernel
theorem dX5_doubled_66 : decode cX5_doubled 66 = .ok (.goto 5, 3) := by decide +kernel
theorem dX5_doubled_69 : decode cX5_doubled 69 = .ok (.iload 4, 2) := by decide +kernel
theorem dX5_doubled_71 : decode cX5_doubled 71 = .ok (.istore 4, 2) := by decide +kernel
theorem dX5_doubled_73 : decode cX5_doubled 73 = .ok (.iinc 3 1, 3) := by decide +kernel
theorem dX5_doubled_76 : decode cX5_doubled 76 = .ok (.iinc 5 1, 3) := by decide +kernel
theorem dX5_doubled_79 : decode cX5_doubled 79 = .ok (.goto (-45), 3) := by decide +kernel
theorem dX5_doubled_82 : decode cX5_doubled 82 = .ok (.iload_n 2, 1) := by decide +kernel
theorem dX5_doubled_83 : decode cX5_doubled 83 = .ok (.iconst (-1), 1) := by decide +kernel
theorem dX5_doubled_84 : decode cX5_doubled 84 = .ok (.if_icmp .ne 5, 3) := by decide +kernel
theorem dX5_doubled_87 : decode cX5_doubled 87 = .ok (.iload_n 3, 1) := by decide +kernel
theorem dX5_doubled_88 : decode cX5_doubled 88 = .ok (.ireturn, 1) := by decide +kernel
theorem dX5_doubled_89 : decode cX5_doubled 89 = .ok (.aload_n 0, 1) := by decide +kernel
theorem dX5_doubled_90 : decode cX5_doubled 90 = .ok (.iload 4, 2) := by decide +kernel
theorem dX5_doubled_92 : decode cX5_doubled 92 = .ok (.iconst (-1), 1) := by decide +kernel
theorem dX5_doubled_93 : decode cX5_doubled 93 = .ok (.if_icmp .ne 7, 3) := by decide +kernel
theorem dX5_doubled_96 : decode cX5_doubled 96 = .ok (.iconst 2, 1) := by decide +kernel
theorem dX5_doubled_97 : decode cX5_doubled 97 = .ok (.goto 4, 3) := by decide +kernel
theorem dX5_doubled_100 : decode cX5_doubled 100 = .ok (.iconst 0, 1) := by decide +kernel
theorem dX5_doubled_101 : decode cX5_doubled 101 = .ok (.putfield 82, 3) := by decide +kernel
theorem dX5_doubled_104 : decode cX5_doubled 104 = .ok (.aload_n 0, 1) := by decide +kernel
theorem dX5_doubled_105 : decode cX5_doubled 105 = .ok (.getfield 82, 3) := by decide +kernel
theorem dX5_doubled_108 : decode cX5_doubled 108 = .ok (.ifCond .le 7, 3) := by decide +kernel
theorem dX5_doubled_111 : decode cX5_doubled 111 = .ok (.iconst 0, 1) := by decide +kernel
theorem dX5_doubled_112 : decode cX5_doubled 112 = .ok (.goto 5, 3) := by decide +kernel
theorem dX5_doubled_115 : decode cX5_doubled 115 = .ok (.iload 4, 2) := by decide +kernel
theorem dX5_doubled_117 : decode cX5_doubled 117 = .ok (.ireturn, 1) := by decide +kernel
set_option maxRecDepth 20000 in
theorem ggX5_account_X5_in : GoodIn wsX5_account wsX5_in := goodIn_r _ [8] (by decide +kernel) (by decide +kernel)
set_option maxRecDepth 20000 in
theorem gX5_account_X5_in : GoodIn wsX5_account (va_wsS RX5 87 yX5_in wsX5_in) := goodIn_app (goodIn_of _ (by decide +kernel)) ggX5_account_X5_in
theorem dX5_account_0 : decode cX5_account 0 = .ok (.aload_n 0, 1) := by decide +kernel
theorem dX5_account_1 : decode cX5_account 1 = .ok (.iload_n 1, 1) := by decide +kernel
theorem dX5_account_2 : decode cX5_account 2 = .ok (.i2l, 1) := by decide +kernel
theorem dX5_account_3 : decode cX5_account 3 = .ok (.lconst 1, 1) := by decide +kernel
theorem dX5_account_4 : decode cX5_account 4 = .ok (.aload_n 0, 1) := by decide +kernel
theorem dX5_account_5 : decode cX5_account 5 = .ok (.getfield 98, 3) := by decide +kernel
theorem dX5_account_8 : decode cX5_account 8 = .ok (.i2l, 1) := by decide +kernel
theorem dX5_account_9 : decode cX5_account 9 = .ok (.invokestatic 87, 3) := by decide +kernel
theorem dX5_account_12 : decode cX5_account 12 = .ok (.ifCond .ne 7, 3) := by decide +kernel
theorem dX5_account_15 : decode cX5_account 15 = .ok (.iconst 1, 1) := by decide +kernel
theorem dX5_account_16 : decode cX5_account 16 = .ok (.goto 20, 3) := by decide +kernel
theorem dX5_account_19 : decode cX5_account 19 = .ok (.iload_n 2, 1) := by decide +kernel
theorem dX5_account_20 : decode cX5_account 20 = .ok (.i2l, 1) := by decide +kernel
theorem dX5_account_21 : decode cX5_account 21 = .ok (.lconst 0, 1) := by decide +kernel
theorem dX5_account_22 : decode cX5_account 22 = .ok (.ldc2_w 96, 3) := by decide +kernel
theorem dX5_account_25 : decode cX5_account 25 = .ok (.invokestatic 87, 3) := by decide +kernel
theorem dX5_account_28 : decode cX5_account 28 = .ok (.ifCond .ne 7, 3) := by decide +kernel
theorem dX5_account_31 : decode cX5_account 31 = .ok (.iconst 2, 1) := by decide +kernel
theorem dX5_account_32 : decode cX5_account 32 = .ok (.goto 4, 3) := by decide +kernel
theorem dX5_account_35 : decode cX5_account 35 = .ok (.iconst 0, 1) := by decide +kernel
theorem dX5_account_36 : decode cX5_account 36 = .ok (.putfield 82, 3) := by decide +kernel
theorem dX5_account_39 : decode cX5_account 39 = .ok (.aload_n 0, 1) := by decide +kernel
theorem dX5_account_40 : decode cX5_account 40 = .ok (.getfield 82, 3) := by decide +kernel
theorem dX5_account_43 : decode cX5_account 43 = .ok (.ifCond .le 7, 3) := by decide +kernel
theorem dX5_account_46 : decode cX5_account 46 = .ok (.lconst 0, 1) := by decide +kernel
theorem dX5_account_47 : decode cX5_account 47 = .ok (.goto 15, 3) := by decide +kernel
theorem dX5_account_50 : decode cX5_account 50 = .ok (.aload_n 0, 1) := by decide +kernel
theorem dX5_account_51 : decode cX5_account 51 = .ok (.getfield 28, 3) := by decide +kernel
theorem dX5_account_54 : decode cX5_account 54 = .ok (.iconst 4, 1) := by decide +kernel
theorem dX5_account_55 : decode cX5_account 55 = .ok (.iload_n 1, 1) := by decide +kernel
theorem dX5_account_56 : decode cX5_account 56 = .ok (.imul, 1) := by decide +kernel
theorem dX5_account_57 : decode cX5_account 57 = .ok (.iconst 4, 1) := by decide +kernel
theorem dX5_account_58 : decode cX5_account 58 = .ok (.isub, 1) := by decide +kernel
theorem dX5_account_59 : decode cX5_account 59 = .ok (.iload_n 2, 1) := by decide +kernel
theorem dX5_account_60 : decode cX5_account 60 = .ok (.iadd, 1) := by decide +kernel
theorem dX5_account_61 : decode cX5_account 61 = .ok (.laload, 1) := by decide +kernel
theorem dX5_account_62 : decode cX5_account 62 = .ok (.lreturn, 1) := by decide +kernel
set_option maxRecDepth 20000 in
theorem ggX5_reason_X5_isJob : GoodIn wsX5_reason wsX5_isJob := goodIn_r _ [14, 15, 16, 17, 13, 18, 27, 28, 29, 30, 31, 32, 33, 34, 35, 36, 37, 38, 39, 40, 41, 42, 43, 44, 45, 46, 47, 48, 49, 50, 51, 52, 53, 54, 55, 56] (by decide +kernel) (by decide +kernel)
set_option maxRecDepth 20000 in
theorem gX5_reason_X5_isJob : GoodIn wsX5_reason (wsV RX5 159 RX5 yX5_isJob wsX5_isJob) := goodIn_app (goodIn_of _ (by decide +kernel)) ggX5_reason_X5_isJob
set_option maxRecDepth 20000 in
theorem ggX5_reason_X5_fits : GoodIn wsX5_reason wsX5_fits := goodIn_r _ [22, 23, 24, 3, 25, 26, 27, 28, 29, 30, 31, 32, 33, 34, 35, 36, 37, 38, 39, 40, 41, 42, 43, 44, 45, 46, 47, 48, 49, 50, 51, 52, 53, 54, 55, 56] (by decide +kernel) (by decide +kernel)
set_option maxRecDepth 20000 in
theorem gX5_reason_X5_fits : GoodIn wsX5_reason (wsV RX5 121 RX5 yX5_fits wsX5_fits) := goodIn_app (goodIn_of _ (by decide +kernel)) ggX5_reason_X5_fits
theorem dX5_reason_0 : decode cX5_reason 0 = .ok (.aload_n 0, 1) := by decide +kernel
theorem dX5_reason_1 : decode cX5_reason 1 = .ok (.aload_n 0, 1) := by decide +kernel
theorem dX5_reason_2 : decode cX5_reason 2 = .ok (.iload_n 1, 1) := by decide +kernel
theorem dX5_reason_3 : decode cX5_reason 3 = .ok (.invokevirtual 159, 3) := by decide +kernel
theorem dX5_reason_6 : decode cX5_reason 6 = .ok (.ifCond .eq 7, 3) := by decide +kernel
theorem dX5_reason_9 : decode cX5_reason 9 = .ok (.iconst 0, 1) := by decide +kernel
theorem dX5_reason_10 : decode cX5_reason 10 = .ok (.goto 4, 3) := by decide +kernel
theorem dX5_reason_13 : decode cX5_reason 13 = .ok (.iconst 1, 1) := by decide +kernel
theorem dX5_reason_14 : decode cX5_reason 14 = .ok (.putfield 82, 3) := by decide +kernel
theorem dX5_reason_17 : decode cX5_reason 17 = .ok (.aload_n 0, 1) := by decide +kernel
theorem dX5_reason_18 : decode cX5_reason 18 = .ok (.getfield 82, 3) := by decide +kernel
theorem dX5_reason_21 : decode cX5_reason 21 = .ok (.ifCond .le 5, 3) := by decide +kernel
theorem dX5_reason_24 : decode cX5_reason 24 = .ok (.iconst 0, 1) := by decide +kernel
theorem dX5_reason_25 : decode cX5_reason 25 = .ok (.ireturn, 1) := by decide +kernel
theorem dX5_reason_26 : decode cX5_reason 26 = .ok (.iconst 0, 1) := by decide +kernel
theorem dX5_reason_27 : decode cX5_reason 27 = .ok (.istore_n 2, 1) := by decide +kernel
theorem dX5_reason_28 : decode cX5_reason 28 = .ok (.iconst 0, 1) := by decide +kernel
theorem dX5_reason_29 : decode cX5_reason 29 = .ok (.istore_n 3, 1) := by decide +kernel
theorem dX5_reason_30 : decode cX5_reason 30 = .ok (.iconst 0, 1) := by decide +kernel
theorem dX5_reason_31 : decode cX5_reason 31 = .ok (.istore 4, 2) := by decide +kernel
theorem dX5_reason_33 : decode cX5_reason 33 = .ok (.iconst 0, 1) := by decide +kernel
theorem dX5_reason_34 : decode cX5_reason 34 = .ok (.istore 5, 2) := by decide +kernel
theorem dX5_reason_36 : decode cX5_reason 36 = .ok (.iload 5, 2) := by decide +kernel
theorem dX5_reason_38 : decode cX5_reason 38 = .ok (.aload_n 0, 1) := by decide +kernel
theorem dX5_reason_39 : decode cX5_reason 39 = .ok (.getfield 101, 3) := by decide +kernel
theorem dX5_reason_42 : decode cX5_reason 42 = .ok (.if_icmp .ge 134, 3) := by decide +kernel
theorem dX5_reason_45 : decode cX5_reason 45 = .ok (.iload_n 2, 1) := by decide +kernel
theorem dX5_reason_46 : decode cX5_reason 46 = .ok (.ifCond .ne 24, 3) := by decide +kernel
theorem dX5_reason_49 : decode cX5_reason 49 = .ok (.aload_n 0, 1) := by decide +kernel
theorem dX5_reason_50 : decode cX5_reason 50 = .ok (.getfield 51, 3) := by decide +kernel
theorem dX5_reason_53 : decode cX5_reason 53 = .ok (.iload 5, 2) := by decide +kernel
theorem dX5_reason_55 : decode cX5_reason 55 = .ok (.iaload, 1) := by decide +kernel
theorem dX5_reason_56 : decode cX5_reason 56 = .ok (.iload_n 1, 1) := by decide +kernel
theorem dX5_reason_57 : decode cX5_reason 57 = .ok (.if_icmp .ne 17, 3) := by decide +kernel
theorem dX5_reason_60 : decode cX5_reason 60 = .ok (.aload_n 0, 1) := by decide +kernel
theorem dX5_reason_61 : decode cX5_reason 61 = .ok (.getfield 69, 3) := by decide +kernel
theorem dX5_reason_64 : decode cX5_reason 64 = .ok (.iload 5, 2) := by decide +kernel
theorem dX5_reason_66 : decode cX5_reason 66 = .ok (.baload, 1) := by decide +kernel
theorem dX5_reason_67 : decode cX5_reason 67 = .ok (.ifCond .eq 7, 3) := by decide +kernel
theorem dX5_reason_70 : decode cX5_reason 70 = .ok (.iconst 1, 1) := by decide +kernel
theorem dX5_reason_71 : decode cX5_reason 71 = .ok (.goto 4, 3) := by decide +kernel
theorem dX5_reason_74 : decode cX5_reason 74 = .ok (.iconst 0, 1) := by decide +kernel
theorem dX5_reason_75 : decode cX5_reason 75 = .ok (.istore_n 2, 1) := by decide +kernel
theorem dX5_reason_76 : decode cX5_reason 76 = .ok (.iconst 1, 1) := by decide +kernel
theorem dX5_reason_77 : decode cX5_reason 77 = .ok (.istore 6, 2) := by decide +kernel
theorem dX5_reason_79 : decode cX5_reason 79 = .ok (.iload 6, 2) := by decide +kernel
theorem dX5_reason_81 : decode cX5_reason 81 = .ok (.aload_n 0, 1) := by decide +kernel
theorem dX5_reason_82 : decode cX5_reason 82 = .ok (.getfield 93, 3) := by decide +kernel
theorem dX5_reason_85 : decode cX5_reason 85 = .ok (.if_icmp .gt 85, 3) := by decide +kernel
theorem dX5_reason_88 : decode cX5_reason 88 = .ok (.aload_n 0, 1) := by decide +kernel
theorem dX5_reason_89 : decode cX5_reason 89 = .ok (.getfield 51, 3) := by decide +kernel
theorem dX5_reason_92 : decode cX5_reason 92 = .ok (.iload 5, 2) := by decide +kernel
theorem dX5_reason_94 : decode cX5_reason 94 = .ok (.iaload, 1) := by decide +kernel
theorem dX5_reason_95 : decode cX5_reason 95 = .ok (.iload_n 1, 1) := by decide +kernel
theorem dX5_reason_96 : decode cX5_reason 96 = .ok (.if_icmp .ne 74, 3) := by decide +kernel
theorem dX5_reason_99 : decode cX5_reason 99 = .ok (.aload_n 0, 1) := by decide +kernel
theorem dX5_reason_100 : decode cX5_reason 100 = .ok (.getfield 69, 3) := by decide +kernel
theorem dX5_reason_103 : decode cX5_reason 103 = .ok (.iload 5, 2) := by decide +kernel
theorem dX5_reason_105 : decode cX5_reason 105 = .ok (.baload, 1) := by decide +kernel
theorem dX5_reason_106 : decode cX5_reason 106 = .ok (.ifCond .eq 64, 3) := by decide +kernel
theorem dX5_reason_109 : decode cX5_reason 109 = .ok (.iload_n 3, 1) := by decide +kernel
theorem dX5_reason_110 : decode cX5_reason 110 = .ok (.ifCond .ne 14, 3) := by decide +kernel
theorem dX5_reason_113 : decode cX5_reason 113 = .ok (.aload_n 0, 1) := by decide +kernel
theorem dX5_reason_114 : decode cX5_reason 114 = .ok (.iload 5, 2) := by decide +kernel
theorem dX5_reason_116 : decode cX5_reason 116 = .ok (.iload 6, 2) := by decide +kernel
theorem dX5_reason_118 : decode cX5_reason 118 = .ok (.invokevirtual 121, 3) := by decide +kernel
theorem dX5_reason_121 : decode cX5_reason 121 = .ok (.ifCond .eq 7, 3) := by decide +kernel
theorem dX5_reason_124 : decode cX5_reason 124 = .ok (.iconst 1, 1) := by decide +kernel
theorem dX5_reason_125 : decode cX5_reason 125 = .ok (.goto 4, 3) := by decide +kernel
theorem dX5_reason_128 : decode cX5_reason 128 = .ok (.iconst 0, 1) := by decide +kernel
theorem dX5_reason_129 : decode cX5_reason 129 = .ok (.istore_n 3, 1) := by decide +kernel
theorem dX5_reason_130 : decode cX5_reason 130 = .ok (.iload 4, 2) := by decide +kernel
theorem dX5_reason_132 : decode cX5_reason 132 = .ok (.ifCond .ne 25, 3) := by decide +kernel
theorem dX5_reason_135 : decode cX5_reason 135 = .ok (.aload_n 0, 1) := by decide +kernel
theorem dX5_reason_136 : decode cX5_reason 136 = .ok (.iload 5, 2) := by decide +kernel
theorem dX5_reason_138 : decode cX5_reason 138 = .ok (.iload 6, 2) := by decide +kernel
theorem dX5_reason_140 : decode cX5_reason 140 = .ok (.invokevirtual 121, 3) := by decide +kernel
theorem dX5_reason_143 : decode cX5_reason 143 = .ok (.ifCond .eq 18, 3) := by decide +kernel
theorem dX5_reason_146 : decode cX5_reason 146 = .ok (.aload_n 0, 1) := by decide +kernel
theorem dX5_reason_147 : decode cX5_reason 147 = .ok (.getfield 19, 3) := by decide +kernel
theorem dX5_reason_150 : decode cX5_reason 150 = .ok (.iload 6, 2) := by decide +kernel
theorem dX5_reason_152 : decode cX5_reason 152 = .ok (.iaload, 1) := by decide +kernel
theorem dX5_reason_153 : decode cX5_reason 153 = .ok (.iconst (-1), 1) := by decide +kernel
theorem dX5_reason_154 : decode cX5_reason 154 = .ok (.if_icmp .ne 7, 3) := by decide +kernel
theorem dX5_reason_157 : decode cX5_reason 157 = .ok (.iconst 1, 1) := by decide +kernel
theorem dX5_reason_158 : decode cX5_reason 158 = .ok (.goto 4, 3) := by decide +kernel
theorem dX5_reason_161 : decode cX5_reason 161 = .ok (.iconst 0, 1) := by decide +kernel
theorem dX5_reason_162 : decode cX5_reason 162 = .ok (.istore 4, 2) := by decide +kernel
theorem dX5_reason_164 : decode cX5_reason 164 = .ok (.iinc 6 1, 3) := by decide +kernel
theorem dX5_reason_167 : decode cX5_reason 167 = .ok (.goto (-88), 3) := by decide +kernel
theorem dX5_reason_170 : decode cX5_reason 170 = .ok (.iinc 5 1, 3) := by decide +kernel
theorem dX5_reason_173 : decode cX5_reason 173 = .ok (.goto (-137), 3) := by decide +kernel
theorem dX5_reason_176 : decode cX5_reason 176 = .ok (.iload_n 2, 1) := by decide +kernel
theorem dX5_reason_177 : decode cX5_reason 177 = .ok (.ifCond .ne 5, 3) := by decide +kernel
theorem dX5_reason_180 : decode cX5_reason 180 = .ok (.iconst 0, 1) := by decide +kernel
theorem dX5_reason_181 : decode cX5_reason 181 = .ok (.ireturn, 1) := by decide +kernel
theorem dX5_reason_182 : decode cX5_reason 182 = .ok (.aload_n 0, 1) := by decide +kernel
theorem dX5_reason_183 : decode cX5_reason 183 = .ok (.getfield 44, 3) := by decide +kernel
theorem dX5_reason_186 : decode cX5_reason 186 = .ok (.iload_n 1, 1) := by decide +kernel
theorem dX5_reason_187 : decode cX5_reason 187 = .ok (.baload, 1) := by decide +kernel
theorem dX5_reason_188 : decode cX5_reason 188 = .ok (.ifCond .eq 5, 3) := by decide +kernel
theorem dX5_reason_191 : decode cX5_reason 191 = .ok (.iconst 1, 1) := by decide +kernel
theorem dX5_reason_192 : decode cX5_reason 192 = .ok (.ireturn, 1) := by decide +kernel
theorem dX5_reason_193 : decode cX5_reason 193 = .ok (.aload_n 0, 1) := by decide +kernel
theorem dX5_reason_194 : decode cX5_reason 194 = .ok (.getfield 41, 3) := by decide +kernel
theorem dX5_reason_197 : decode cX5_reason 197 = .ok (.iload_n 1, 1) := by decide +kernel
theorem dX5_reason_198 : decode cX5_reason 198 = .ok (.laload, 1) := by decide +kernel
theorem dX5_reason_199 : decode cX5_reason 199 = .ok (.aload_n 0, 1) := by decide +kernel
theorem dX5_reason_200 : decode cX5_reason 200 = .ok (.getfield 117, 3) := by decide +kernel
theorem dX5_reason_203 : decode cX5_reason 203 = .ok (.lcmp, 1) := by decide +kernel
theorem dX5_reason_204 : decode cX5_reason 204 = .ok (.ifCond .le 5, 3) := by decide +kernel
theorem dX5_reason_207 : decode cX5_reason 207 = .ok (.iconst 2, 1) := by decide +kernel
theorem dX5_reason_208 : decode cX5_reason 208 = .ok (.ireturn, 1) := by decide +kernel
theorem dX5_reason_209 : decode cX5_reason 209 = .ok (.iload_n 3, 1) := by decide +kernel
theorem dX5_reason_210 : decode cX5_reason 210 = .ok (.ifCond .ne 7, 3) := by decide +kernel
theorem dX5_reason_213 : decode cX5_reason 213 = .ok (.iconst 3, 1) := by decide +kernel
theorem dX5_reason_214 : decode cX5_reason 214 = .ok (.goto 13, 3) := by decide +kernel
theorem dX5_reason_217 : decode cX5_reason 217 = .ok (.iload 4, 2) := by decide +kernel
theorem dX5_reason_219 : decode cX5_reason 219 = .ok (.ifCond .ne 7, 3) := by decide +kernel
theorem dX5_reason_222 : decode cX5_reason 222 = .ok (.iconst 4, 1) := by decide +kernel
theorem dX5_reason_223 : decode cX5_reason 223 = .ok (.goto 4, 3) := by decide +kernel
theorem dX5_reason_226 : decode cX5_reason 226 = .ok (.iconst 5, 1) := by decide +kernel
theorem dX5_reason_227 : decode cX5_reason 227 = .ok (.ireturn, 1) := by decide +kernel
set_option maxRecDepth 20000 in
theorem ggX5_split_X5_isJob : GoodIn wsX5_split wsX5_isJob := goodIn_r _ [13, 14, 15, 16, 12, 17, 28, 29, 30, 31, 32, 33, 34, 35, 36, 37, 38, 39, 40, 41, 42, 43, 44, 45, 46, 47, 48, 49, 50, 51, 52, 53, 54, 55, 56, 57] (by decide +kernel) (by decide +kernel)
set_option maxRecDepth 20000 in
theorem gX5_split_X5_isJob : GoodIn wsX5_split (wsV RX5 159 RX5 yX5_isJob wsX5_isJob) := goodIn_app (goodIn_of _ (by decide +kernel)) ggX5_split_X5_isJob
set_option maxRecDepth 20000 in
theorem ggX5_split_X5_isPrinter : GoodIn wsX5_split wsX5_isPrinter := goodIn_r _ [21, 22, 15, 16, 12, 17, 28, 29, 30, 31, 32, 33, 34, 35, 36, 37, 38, 39, 40, 41, 42, 43, 44, 45, 46, 47, 48, 49, 50, 51, 52, 53, 54, 55, 56, 57] (by decide +kernel) (by decide +kernel)
set_option maxRecDepth 20000 in
theorem gX5_split_X5_isPrinter : GoodIn wsX5_split (wsV RX5 132 RX5 yX5_isPrinter wsX5_isPrinter) := goodIn_app (goodIn_of _ (by decide +kernel)) ggX5_split_X5_isPrinter
set_option maxRecDepth 20000 in
theorem ggX5_split_X5_addPart : GoodIn wsX5_split wsX5_addPart := goodIn_r _ [26, 5, 2, 8, 6, 27, 3, 7, 28, 29, 30, 31, 32, 33, 34, 35, 36, 37, 38, 39, 40, 41, 42, 43, 44, 45, 46, 47, 48, 49, 50, 51, 52, 53, 54, 55, 56, 57] (by decide +kernel) (by decide +kernel)
set_option maxRecDepth 20000 in
theorem gX5_split_X5_addPart : GoodIn wsX5_split (wsV RX5 113 RX5 yX5_addPart wsX5_addPart) := goodIn_app (goodIn_of _ (by decide +kernel)) ggX5_split_X5_addPart
theorem dX5_split_0 : decode cX5_split 0 = .ok (.aload_n 0, 1) := by decide +kernel
theorem dX5_split_1 : decode cX5_split 1 = .ok (.aload_n 0, 1) := by decide +kernel
theorem dX5_split_2 : decode cX5_split 2 = .ok (.iload_n 1, 1) := by decide +kernel
theorem dX5_split_3 : decode cX5_split 3 = .ok (.invokevirtual 159, 3) := by decide +kernel
theorem dX5_split_6 : decode cX5_split 6 = .ok (.ifCond .eq 15, 3) := by decide +kernel
theorem dX5_split_9 : decode cX5_split 9 = .ok (.aload_n 0, 1) := by decide +kernel
theorem dX5_split_10 : decode cX5_split 10 = .ok (.iload_n 2, 1) := by decide +kernel
theorem dX5_split_11 : decode cX5_split 11 = .ok (.invokevirtual 132, 3) := by decide +kernel
theorem dX5_split_14 : decode cX5_split 14 = .ok (.ifCond .eq 7, 3) := by decide +kernel
theorem dX5_split_17 : decode cX5_split 17 = .ok (.iconst 0, 1) := by decide +kernel
theorem dX5_split_18 : decode cX5_split 18 = .ok (.goto 4, 3) := by decide +kernel
theorem dX5_split_21 : decode cX5_split 21 = .ok (.iconst 1, 1) := by decide +kernel
theorem dX5_split_22 : decode cX5_split 22 = .ok (.putfield 82, 3) := by decide +kernel
theorem dX5_split_25 : decode cX5_split 25 = .ok (.aload_n 0, 1) := by decide +kernel
theorem dX5_split_26 : decode cX5_split 26 = .ok (.getfield 82, 3) := by decide +kernel
theorem dX5_split_29 : decode cX5_split 29 = .ok (.ifCond .gt 8, 3) := by decide +kernel
theorem dX5_split_32 : decode cX5_split 32 = .ok (.iload_n 3, 1) := by decide +kernel
theorem dX5_split_33 : decode cX5_split 33 = .ok (.iconst 1, 1) := by decide +kernel
theorem dX5_split_34 : decode cX5_split 34 = .ok (.if_icmp .ge 5, 3) := by decide +kernel
theorem dX5_split_37 : decode cX5_split 37 = .ok (.iconst 0, 1) := by decide +kernel
theorem dX5_split_38 : decode cX5_split 38 = .ok (.ireturn, 1) := by decide +kernel
theorem dX5_split_39 : decode cX5_split 39 = .ok (.iconst 0, 1) := by decide +kernel
theorem dX5_split_40 : decode cX5_split 40 = .ok (.istore 4, 2) := by decide +kernel
theorem dX5_split_42 : decode cX5_split 42 = .ok (.iload 4, 2) := by decide +kernel
theorem dX5_split_44 : decode cX5_split 44 = .ok (.aload_n 0, 1) := by decide +kernel
theorem dX5_split_45 : decode cX5_split 45 = .ok (.getfield 101, 3) := by decide +kernel
theorem dX5_split_48 : decode cX5_split 48 = .ok (.if_icmp .ge 137, 3) := by decide +kernel
theorem dX5_split_51 : decode cX5_split 51 = .ok (.aload_n 0, 1) := by decide +kernel
theorem dX5_split_52 : decode cX5_split 52 = .ok (.getfield 63, 3) := by decide +kernel
theorem dX5_split_55 : decode cX5_split 55 = .ok (.iload 4, 2) := by decide +kernel
theorem dX5_split_57 : decode cX5_split 57 = .ok (.iaload, 1) := by decide +kernel
theorem dX5_split_58 : decode cX5_split 58 = .ok (.aload_n 0, 1) := by decide +kernel
theorem dX5_split_59 : decode cX5_split 59 = .ok (.getfield 35, 3) := by decide +kernel
theorem dX5_split_62 : decode cX5_split 62 = .ok (.aload_n 0, 1) := by decide +kernel
theorem dX5_split_63 : decode cX5_split 63 = .ok (.getfield 51, 3) := by decide +kernel
theorem dX5_split_66 : decode cX5_split 66 = .ok (.iload 4, 2) := by decide +kernel
theorem dX5_split_68 : decode cX5_split 68 = .ok (.iaload, 1) := by decide +kernel
theorem dX5_split_69 : decode cX5_split 69 = .ok (.iaload, 1) := by decide +kernel
theorem dX5_split_70 : decode cX5_split 70 = .ok (.idiv, 1) := by decide +kernel
theorem dX5_split_71 : decode cX5_split 71 = .ok (.istore 5, 2) := by decide +kernel
theorem dX5_split_73 : decode cX5_split 73 = .ok (.iload 5, 2) := by decide +kernel
theorem dX5_split_75 : decode cX5_split 75 = .ok (.aload_n 0, 1) := by decide +kernel
theorem dX5_split_76 : decode cX5_split 76 = .ok (.getfield 35, 3) := by decide +kernel
theorem dX5_split_79 : decode cX5_split 79 = .ok (.aload_n 0, 1) := by decide +kernel
theorem dX5_split_80 : decode cX5_split 80 = .ok (.getfield 51, 3) := by decide +kernel
theorem dX5_split_83 : decode cX5_split 83 = .ok (.iload 4, 2) := by decide +kernel
theorem dX5_split_85 : decode cX5_split 85 = .ok (.iaload, 1) := by decide +kernel
theorem dX5_split_86 : decode cX5_split 86 = .ok (.iaload, 1) := by decide +kernel
theorem dX5_split_87 : decode cX5_split 87 = .ok (.imul, 1) := by decide +kernel
theorem dX5_split_88 : decode cX5_split 88 = .ok (.aload_n 0, 1) := by decide +kernel
theorem dX5_split_89 : decode cX5_split 89 = .ok (.getfield 63, 3) := by decide +kernel
theorem dX5_split_92 : decode cX5_split 92 = .ok (.iload 4, 2) := by decide +kernel
theorem dX5_split_94 : decode cX5_split 94 = .ok (.iaload, 1) := by decide +kernel
theorem dX5_split_95 : decode cX5_split 95 = .ok (.if_icmp .ge 10, 3) := by decide +kernel
theorem dX5_split_98 : decode cX5_split 98 = .ok (.iload 5, 2) := by decide +kernel
theorem dX5_split_100 : decode cX5_split 100 = .ok (.iconst 1, 1) := by decide +kernel
theorem dX5_split_101 : decode cX5_split 101 = .ok (.iadd, 1) := by decide +kernel
theorem dX5_split_102 : decode cX5_split 102 = .ok (.goto 5, 3) := by decide +kernel
theorem dX5_split_105 : decode cX5_split 105 = .ok (.iload 5, 2) := by decide +kernel
theorem dX5_split_107 : decode cX5_split 107 = .ok (.istore 5, 2) := by decide +kernel
theorem dX5_split_109 : decode cX5_split 109 = .ok (.aload_n 0, 1) := by decide +kernel
theorem dX5_split_110 : decode cX5_split 110 = .ok (.getfield 51, 3) := by decide +kernel
theorem dX5_split_113 : decode cX5_split 113 = .ok (.iload 4, 2) := by decide +kernel
theorem dX5_split_115 : decode cX5_split 115 = .ok (.iaload, 1) := by decide +kernel
theorem dX5_split_116 : decode cX5_split 116 = .ok (.iload_n 1, 1) := by decide +kernel
theorem dX5_split_117 : decode cX5_split 117 = .ok (.if_icmp .ne 62, 3) := by decide +kernel
theorem dX5_split_120 : decode cX5_split 120 = .ok (.aload_n 0, 1) := by decide +kernel
theorem dX5_split_121 : decode cX5_split 121 = .ok (.getfield 57, 3) := by decide +kernel
theorem dX5_split_124 : decode cX5_split 124 = .ok (.iload 4, 2) := by decide +kernel
theorem dX5_split_126 : decode cX5_split 126 = .ok (.iaload, 1) := by decide +kernel
theorem dX5_split_127 : decode cX5_split 127 = .ok (.ifCond .ne 52, 3) := by decide +kernel
theorem dX5_split_130 : decode cX5_split 130 = .ok (.aload_n 0, 1) := by decide +kernel
theorem dX5_split_131 : decode cX5_split 131 = .ok (.getfield 69, 3) := by decide +kernel
theorem dX5_split_134 : decode cX5_split 134 = .ok (.iload 4, 2) := by decide +kernel
theorem dX5_split_136 : decode cX5_split 136 = .ok (.baload, 1) := by decide +kernel
theorem dX5_split_137 : decode cX5_split 137 = .ok (.ifCond .eq 42, 3) := by decide +kernel
theorem dX5_split_140 : decode cX5_split 140 = .ok (.aload_n 0, 1) := by decide +kernel
theorem dX5_split_141 : decode cX5_split 141 = .ok (.getfield 54, 3) := by decide +kernel
theorem dX5_split_144 : decode cX5_split 144 = .ok (.iload 4, 2) := by decide +kernel
theorem dX5_split_146 : decode cX5_split 146 = .ok (.iaload, 1) := by decide +kernel
theorem dX5_split_147 : decode cX5_split 147 = .ok (.iload 5, 2) := by decide +kernel
theorem dX5_split_149 : decode cX5_split 149 = .ok (.isub, 1) := by decide +kernel
theorem dX5_split_150 : decode cX5_split 150 = .ok (.iload_n 3, 1) := by decide +kernel
theorem dX5_split_151 : decode cX5_split 151 = .ok (.if_icmp .le 28, 3) := by decide +kernel
theorem dX5_split_154 : decode cX5_split 154 = .ok (.aload_n 0, 1) := by decide +kernel
theorem dX5_split_155 : decode cX5_split 155 = .ok (.getfield 54, 3) := by decide +kernel
theorem dX5_split_158 : decode cX5_split 158 = .ok (.iload 4, 2) := by decide +kernel
theorem dX5_split_160 : decode cX5_split 160 = .ok (.aload_n 0, 1) := by decide +kernel
theorem dX5_split_161 : decode cX5_split 161 = .ok (.getfield 54, 3) := by decide +kernel
theorem dX5_split_164 : decode cX5_split 164 = .ok (.iload 4, 2) := by decide +kernel
theorem dX5_split_166 : decode cX5_split 166 = .ok (.iaload, 1) := by decide +kernel
theorem dX5_split_167 : decode cX5_split 167 = .ok (.iload_n 3, 1) := by decide +kernel
theorem dX5_split_168 : decode cX5_split 168 = .ok (.isub, 1) := by decide +kernel
theorem dX5_split_169 : decode cX5_split 169 = .ok (.iastore, 1) := by decide +kernel
theorem dX5_split_170 : decode cX5_split 170 = .ok (.aload_n 0, 1) := by decide +kernel
theorem dX5_split_171 : decode cX5_split 171 = .ok (.iload_n 1, 1) := by decide +kernel
theorem dX5_split_172 : decode cX5_split 172 = .ok (.iload_n 3, 1) := by decide +kernel
theorem dX5_split_173 : decode cX5_split 173 = .ok (.iload_n 2, 1) := by decide +kernel
theorem dX5_split_174 : decode cX5_split 174 = .ok (.invokevirtual 113, 3) := by decide +kernel
theorem dX5_split_177 : decode cX5_split 177 = .ok (.iconst 1, 1) := by decide +kernel
theorem dX5_split_178 : decode cX5_split 178 = .ok (.ireturn, 1) := by decide +kernel
theorem dX5_split_179 : decode cX5_split 179 = .ok (.iinc 4 1, 3) := by decide +kernel
theorem dX5_split_182 : decode cX5_split 182 = .ok (.goto (-140), 3) := by decide +kernel
theorem dX5_split_185 : decode cX5_split 185 = .ok (.iconst 0, 1) := by decide +kernel
theorem dX5_split_186 : decode cX5_split 186 = .ok (.ireturn, 1) := by decide +kernel
set_option maxRecDepth 20000 in
theorem ggX5_like_X5_in : GoodIn wsX5_like wsX5_in := goodIn_r _ [7] (by decide +kernel) (by decide +kernel)
set_option maxRecDepth 20000 in
theorem gX5_like_X5_in : GoodIn wsX5_like (va_wsS RX5 87 yX5_in wsX5_in) := goodIn_app (goodIn_of _ (by decide +kernel)) ggX5_like_X5_in
theorem dX5_like_0 : decode cX5_like 0 = .ok (.aload_n 0, 1) := by decide +kernel
theorem dX5_like_1 : decode cX5_like 1 = .ok (.iload_n 1, 1) := by decide +kernel
theorem dX5_like_2 : decode cX5_like 2 = .ok (.i2l, 1) := by decide +kernel
theorem dX5_like_3 : decode cX5_like 3 = .ok (.lconst 0, 1) := by decide +kernel
theorem dX5_like_4 : decode cX5_like 4 = .ok (.ldc2_w 106, 3) := by decide +kernel
theorem dX5_like_7 : decode cX5_like 7 = .ok (.invokestatic 87, 3) := by decide +kernel
theorem dX5_like_10 : decode cX5_like 10 = .ok (.ifCond .eq 7, 3) := by decide +kernel
theorem dX5_like_13 : decode cX5_like 13 = .ok (.iconst 0, 1) := by decide +kernel
theorem dX5_like_14 : decode cX5_like 14 = .ok (.goto 4, 3) := by decide +kernel
theorem dX5_like_17 : decode cX5_like 17 = .ok (.iconst 1, 1) := by decide +kernel
theorem dX5_like_18 : decode cX5_like 18 = .ok (.putfield 82, 3) := by decide +kernel
theorem dX5_like_21 : decode cX5_like 21 = .ok (.aload_n 0, 1) := by decide +kernel
theorem dX5_like_22 : decode cX5_like 22 = .ok (.getfield 82, 3) := by decide +kernel
theorem dX5_like_25 : decode cX5_like 25 = .ok (.ifCond .le 5, 3) := by decide +kernel
theorem dX5_like_28 : decode cX5_like 28 = .ok (.iconst 0, 1) := by decide +kernel
theorem dX5_like_29 : decode cX5_like 29 = .ok (.ireturn, 1) := by decide +kernel
theorem dX5_like_30 : decode cX5_like 30 = .ok (.aload_n 0, 1) := by decide +kernel
theorem dX5_like_31 : decode cX5_like 31 = .ok (.getfield 78, 3) := by decide +kernel
theorem dX5_like_34 : decode cX5_like 34 = .ok (.istore_n 2, 1) := by decide +kernel
theorem dX5_like_35 : decode cX5_like 35 = .ok (.aload_n 0, 1) := by decide +kernel
theorem dX5_like_36 : decode cX5_like 36 = .ok (.iload_n 1, 1) := by decide +kernel
theorem dX5_like_37 : decode cX5_like 37 = .ok (.putfield 78, 3) := by decide +kernel
theorem dX5_like_40 : decode cX5_like 40 = .ok (.iload_n 2, 1) := by decide +kernel
theorem dX5_like_41 : decode cX5_like 41 = .ok (.ireturn, 1) := by decide +kernel
