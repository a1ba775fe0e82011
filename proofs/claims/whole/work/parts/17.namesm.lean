theorem dX8_init_0 : decode cX8_init 0 = .ok (.aload_n 0, 1) := by decide +kernel
theorem dX8_init_1 : decode cX8_init 1 = .ok (.invokespecial 1, 3) := by decide +kernel
theorem dX8_init_4 : decode cX8_init 4 = .ok (.aload_n 0, 1) := by decide +kernel
theorem dX8_init_5 : decode cX8_init 5 = .ok (.lconst 1, 1) := by decide +kernel
theorem dX8_init_6 : decode cX8_init 6 = .ok (.putfield 7, 3) := by decide +kernel
theorem dX8_init_9 : decode cX8_init 9 = .ok (.aload_n 0, 1) := by decide +kernel
theorem dX8_init_10 : decode cX8_init 10 = .ok (.iconst 4, 1) := by decide +kernel
theorem dX8_init_11 : decode cX8_init 11 = .ok (.newarray .int, 2) := by decide +kernel
theorem dX8_init_13 : decode cX8_init 13 = .ok (.putfield 13, 3) := by decide +kernel
theorem dX8_init_16 : decode cX8_init 16 = .ok (.aload_n 0, 1) := by decide +kernel
theorem dX8_init_17 : decode cX8_init 17 = .ok (.iconst 4, 1) := by decide +kernel
theorem dX8_init_18 : decode cX8_init 18 = .ok (.newarray .int, 2) := by decide +kernel
theorem dX8_init_20 : decode cX8_init 20 = .ok (.dup, 1) := by decide +kernel
theorem dX8_init_21 : decode cX8_init 21 = .ok (.iconst 0, 1) := by decide +kernel
theorem dX8_init_22 : decode cX8_init 22 = .ok (.iconst (-1), 1) := by decide +kernel
theorem dX8_init_23 : decode cX8_init 23 = .ok (.iastore, 1) := by decide +kernel
theorem dX8_init_24 : decode cX8_init 24 = .ok (.dup, 1) := by decide +kernel
theorem dX8_init_25 : decode cX8_init 25 = .ok (.iconst 1, 1) := by decide +kernel
theorem dX8_init_26 : decode cX8_init 26 = .ok (.iconst (-1), 1) := by decide +kernel
theorem dX8_init_27 : decode cX8_init 27 = .ok (.iastore, 1) := by decide +kernel
theorem dX8_init_28 : decode cX8_init 28 = .ok (.dup, 1) := by decide +kernel
theorem dX8_init_29 : decode cX8_init 29 = .ok (.iconst 2, 1) := by decide +kernel
theorem dX8_init_30 : decode cX8_init 30 = .ok (.iconst (-1), 1) := by decide +kernel
theorem dX8_init_31 : decode cX8_init 31 = .ok (.iastore, 1) := by decide +kernel
theorem dX8_init_32 : decode cX8_init 32 = .ok (.dup, 1) := by decide +kernel
theorem dX8_init_33 : decode cX8_init 33 = .ok (.iconst 3, 1) := by decide +kernel
theorem dX8_init_34 : decode cX8_init 34 = .ok (.iconst (-1), 1) := by decide +kernel
theorem dX8_init_35 : decode cX8_init 35 = .ok (.iastore, 1) := by decide +kernel
theorem dX8_init_36 : decode cX8_init 36 = .ok (.putfield 17, 3) := by decide +kernel
theorem dX8_init_39 : decode cX8_init 39 = .ok (.aload_n 0, 1) := by decide +kernel
theorem dX8_init_40 : decode cX8_init 40 = .ok (.bipush 80, 2) := by decide +kernel
theorem dX8_init_42 : decode cX8_init 42 = .ok (.newarray .long, 2) := by decide +kernel
theorem dX8_init_44 : decode cX8_init 44 = .ok (.putfield 20, 3) := by decide +kernel
theorem dX8_init_47 : decode cX8_init 47 = .ok (.aload_n 0, 1) := by decide +kernel
theorem dX8_init_48 : decode cX8_init 48 = .ok (.iconst 2, 1) := by decide +kernel
theorem dX8_init_49 : decode cX8_init 49 = .ok (.putfield 24, 3) := by decide +kernel
theorem dX8_init_52 : decode cX8_init 52 = .ok (.aload_n 0, 1) := by decide +kernel
theorem dX8_init_53 : decode cX8_init 53 = .ok (.bipush 40, 2) := by decide +kernel
theorem dX8_init_55 : decode cX8_init 55 = .ok (.newarray .int, 2) := by decide +kernel
theorem dX8_init_57 : decode cX8_init 57 = .ok (.putfield 28, 3) := by decide +kernel
theorem dX8_init_60 : decode cX8_init 60 = .ok (.aload_n 0, 1) := by decide +kernel
theorem dX8_init_61 : decode cX8_init 61 = .ok (.bipush 40, 2) := by decide +kernel
theorem dX8_init_63 : decode cX8_init 63 = .ok (.newarray .int, 2) := by decide +kernel
theorem dX8_init_65 : decode cX8_init 65 = .ok (.putfield 31, 3) := by decide +kernel
theorem dX8_init_68 : decode cX8_init 68 = .ok (.aload_n 0, 1) := by decide +kernel
theorem dX8_init_69 : decode cX8_init 69 = .ok (.iconst 4, 1) := by decide +kernel
theorem dX8_init_70 : decode cX8_init 70 = .ok (.newarray .int, 2) := by decide +kernel
theorem dX8_init_72 : decode cX8_init 72 = .ok (.putfield 34, 3) := by decide +kernel
theorem dX8_init_75 : decode cX8_init 75 = .ok (.aload_n 0, 1) := by decide +kernel
theorem dX8_init_76 : decode cX8_init 76 = .ok (.iconst 4, 1) := by decide +kernel
theorem dX8_init_77 : decode cX8_init 77 = .ok (.newarray .int, 2) := by decide +kernel
theorem dX8_init_79 : decode cX8_init 79 = .ok (.putfield 37, 3) := by decide +kernel
theorem dX8_init_82 : decode cX8_init 82 = .ok (.aload_n 0, 1) := by decide +kernel
theorem dX8_init_83 : decode cX8_init 83 = .ok (.bipush 40, 2) := by decide +kernel
theorem dX8_init_85 : decode cX8_init 85 = .ok (.newarray .boolean, 2) := by decide +kernel
theorem dX8_init_87 : decode cX8_init 87 = .ok (.putfield 40, 3) := by decide +kernel
theorem dX8_init_90 : decode cX8_init 90 = .ok (.aload_n 0, 1) := by decide +kernel
theorem dX8_init_91 : decode cX8_init 91 = .ok (.bipush 40, 2) := by decide +kernel
theorem dX8_init_93 : decode cX8_init 93 = .ok (.newarray .boolean, 2) := by decide +kernel
theorem dX8_init_95 : decode cX8_init 95 = .ok (.putfield 44, 3) := by decide +kernel
theorem dX8_init_98 : decode cX8_init 98 = .ok (.aload_n 0, 1) := by decide +kernel
theorem dX8_init_99 : decode cX8_init 99 = .ok (.iconst 4, 1) := by decide +kernel
theorem dX8_init_100 : decode cX8_init 100 = .ok (.newarray .boolean, 2) := by decide +kernel
theorem dX8_init_102 : decode cX8_init 102 = .ok (.putfield 47, 3) := by decide +kernel
theorem dX8_init_105 : decode cX8_init 105 = .ok (.aload_n 0, 1) := by decide +kernel
theorem dX8_init_106 : decode cX8_init 106 = .ok (.bipush 40, 2) := by decide +kernel
theorem dX8_init_108 : decode cX8_init 108 = .ok (.newarray .boolean, 2) := by decide +kernel
theorem dX8_init_110 : decode cX8_init 110 = .ok (.putfield 50, 3) := by decide +kernel
theorem dX8_init_113 : decode cX8_init 113 = .ok (.aload_n 0, 1) := by decide +kernel
theorem dX8_init_114 : decode cX8_init 114 = .ok (.bipush 120, 2) := by decide +kernel
theorem dX8_init_116 : decode cX8_init 116 = .ok (.newarray .int, 2) := by decide +kernel
theorem dX8_init_118 : decode cX8_init 118 = .ok (.putfield 53, 3) := by decide +kernel
theorem dX8_init_121 : decode cX8_init 121 = .ok (.aload_n 0, 1) := by decide +kernel
theorem dX8_init_122 : decode cX8_init 122 = .ok (.bipush 120, 2) := by decide +kernel
theorem dX8_init_124 : decode cX8_init 124 = .ok (.newarray .int, 2) := by decide +kernel
theorem dX8_init_126 : decode cX8_init 126 = .ok (.putfield 56, 3) := by decide +kernel
theorem dX8_init_129 : decode cX8_init 129 = .ok (.aload_n 0, 1) := by decide +kernel
theorem dX8_init_130 : decode cX8_init 130 = .ok (.sipush 720, 3) := by decide +kernel
theorem dX8_init_133 : decode cX8_init 133 = .ok (.newarray .int, 2) := by decide +kernel
theorem dX8_init_135 : decode cX8_init 135 = .ok (.putfield 59, 3) := by decide +kernel
theorem dX8_init_138 : decode cX8_init 138 = .ok (.aload_n 0, 1) := by decide +kernel
theorem dX8_init_139 : decode cX8_init 139 = .ok (.bipush 100, 2) := by decide +kernel
theorem dX8_init_141 : decode cX8_init 141 = .ok (.newarray .boolean, 2) := by decide +kernel
theorem dX8_init_143 : decode cX8_init 143 = .ok (.putfield 62, 3) := by decide +kernel
theorem dX8_init_146 : decode cX8_init 146 = .ok (.aload_n 0, 1) := by decide +kernel
theorem dX8_init_147 : decode cX8_init 147 = .ok (.sipush 400, 3) := by decide +kernel
theorem dX8_init_150 : decode cX8_init 150 = .ok (.newarray .int, 2) := by decide +kernel
theorem dX8_init_152 : decode cX8_init 152 = .ok (.putfield 65, 3) := by decide +kernel
theorem dX8_init_155 : decode cX8_init 155 = .ok (.aload_n 0, 1) := by decide +kernel
theorem dX8_init_156 : decode cX8_init 156 = .ok (.sipush 160, 3) := by decide +kernel
theorem dX8_init_159 : decode cX8_init 159 = .ok (.newarray .int, 2) := by decide +kernel
theorem dX8_init_161 : decode cX8_init 161 = .ok (.putfield 68, 3) := by decide +kernel
theorem dX8_init_164 : decode cX8_init 164 = .ok (.aload_n 0, 1) := by decide +kernel
theorem dX8_init_165 : decode cX8_init 165 = .ok (.bipush 41, 2) := by decide +kernel
theorem dX8_init_167 : decode cX8_init 167 = .ok (.newarray .long, 2) := by decide +kernel
theorem dX8_init_169 : decode cX8_init 169 = .ok (.putfield 71, 3) := by decide +kernel
theorem dX8_init_172 : decode cX8_init 172 = .ok (.return_, 1) := by decide +kernel
theorem dX8_status_0 : decode cX8_status 0 = .ok (.aload_n 0, 1) := by decide +kernel
theorem dX8_status_1 : decode cX8_status 1 = .ok (.getfield 74, 3) := by decide +kernel
theorem dX8_status_4 : decode cX8_status 4 = .ok (.ireturn, 1) := by decide +kernel
theorem dX8_top_0 : decode cX8_top 0 = .ok (.aload_n 0, 1) := by decide +kernel
theorem dX8_top_1 : decode cX8_top 1 = .ok (.getfield 77, 3) := by decide +kernel
theorem dX8_top_4 : decode cX8_top 4 = .ok (.lreturn, 1) := by decide +kernel
theorem dX8_bottom_0 : decode cX8_bottom 0 = .ok (.aload_n 0, 1) := by decide +kernel
theorem dX8_bottom_1 : decode cX8_bottom 1 = .ok (.getfield 7, 3) := by decide +kernel
theorem dX8_bottom_4 : decode cX8_bottom 4 = .ok (.lreturn, 1) := by decide +kernel
theorem dX8_is_0 : decode cX8_is 0 = .ok (.aload_n 0, 1) := by decide +kernel
theorem dX8_is_1 : decode cX8_is 1 = .ok (.iload_n 1, 1) := by decide +kernel
theorem dX8_is_2 : decode cX8_is 2 = .ok (.putfield 74, 3) := by decide +kernel
theorem dX8_is_5 : decode cX8_is 5 = .ok (.iload_n 1, 1) := by decide +kernel
theorem dX8_is_6 : decode cX8_is 6 = .ok (.ifCond .ne 7, 3) := by decide +kernel
theorem dX8_is_9 : decode cX8_is 9 = .ok (.iconst 1, 1) := by decide +kernel
theorem dX8_is_10 : decode cX8_is 10 = .ok (.goto 4, 3) := by decide +kernel
theorem dX8_is_13 : decode cX8_is 13 = .ok (.iconst 0, 1) := by decide +kernel
theorem dX8_is_14 : decode cX8_is 14 = .ok (.ireturn, 1) := by decide +kernel
theorem dX8_refuse_0 : decode cX8_refuse 0 = .ok (.aload_n 0, 1) := by decide +kernel
theorem dX8_refuse_1 : decode cX8_refuse 1 = .ok (.iload_n 1, 1) := by decide +kernel
theorem dX8_refuse_2 : decode cX8_refuse 2 = .ok (.putfield 74, 3) := by decide +kernel
theorem dX8_refuse_5 : decode cX8_refuse 5 = .ok (.iconst (-1), 1) := by decide +kernel
theorem dX8_refuse_6 : decode cX8_refuse 6 = .ok (.ireturn, 1) := by decide +kernel
theorem dX8_isTray_0 : decode cX8_isTray 0 = .ok (.iload_n 0, 1) := by decide +kernel
theorem dX8_isTray_1 : decode cX8_isTray 1 = .ok (.ifCond .lt 12, 3) := by decide +kernel
theorem dX8_isTray_4 : decode cX8_isTray 4 = .ok (.iload_n 0, 1) := by decide +kernel
theorem dX8_isTray_5 : decode cX8_isTray 5 = .ok (.iconst 4, 1) := by decide +kernel
theorem dX8_isTray_6 : decode cX8_isTray 6 = .ok (.if_icmp .ge 7, 3) := by decide +kernel
theorem dX8_isTray_9 : decode cX8_isTray 9 = .ok (.iconst 1, 1) := by decide +kernel
theorem dX8_isTray_10 : decode cX8_isTray 10 = .ok (.goto 4, 3) := by decide +kernel
theorem dX8_isTray_13 : decode cX8_isTray 13 = .ok (.iconst 0, 1) := by decide +kernel
theorem dX8_isTray_14 : decode cX8_isTray 14 = .ok (.ireturn, 1) := by decide +kernel
theorem dX8_cut_0 : decode cX8_cut 0 = .ok (.iload_n 2, 1) := by decide +kernel
theorem dX8_cut_1 : decode cX8_cut 1 = .ok (.ifCond .ne 10, 3) := by decide +kernel
theorem dX8_cut_4 : decode cX8_cut 4 = .ok (.lload_n 0, 1) := by decide +kernel
theorem dX8_cut_5 : decode cX8_cut 5 = .ok (.l2i, 1) := by decide +kernel
theorem dX8_cut_6 : decode cX8_cut 6 = .ok (.i2b, 1) := by decide +kernel
theorem dX8_cut_7 : decode cX8_cut 7 = .ok (.i2l, 1) := by decide +kernel
theorem dX8_cut_8 : decode cX8_cut 8 = .ok (.goto 27, 3) := by decide +kernel
theorem dX8_cut_11 : decode cX8_cut 11 = .ok (.iload_n 2, 1) := by decide +kernel
theorem dX8_cut_12 : decode cX8_cut 12 = .ok (.iconst 1, 1) := by decide +kernel
theorem dX8_cut_13 : decode cX8_cut 13 = .ok (.if_icmp .ne 10, 3) := by decide +kernel
theorem dX8_cut_16 : decode cX8_cut 16 = .ok (.lload_n 0, 1) := by decide +kernel
theorem dX8_cut_17 : decode cX8_cut 17 = .ok (.l2i, 1) := by decide +kernel
theorem dX8_cut_18 : decode cX8_cut 18 = .ok (.i2s, 1) := by decide +kernel
theorem dX8_cut_19 : decode cX8_cut 19 = .ok (.i2l, 1) := by decide +kernel
theorem dX8_cut_20 : decode cX8_cut 20 = .ok (.goto 15, 3) := by decide +kernel
theorem dX8_cut_23 : decode cX8_cut 23 = .ok (.iload_n 2, 1) := by decide +kernel
theorem dX8_cut_24 : decode cX8_cut 24 = .ok (.iconst 2, 1) := by decide +kernel
theorem dX8_cut_25 : decode cX8_cut 25 = .ok (.if_icmp .ne 9, 3) := by decide +kernel
theorem dX8_cut_28 : decode cX8_cut 28 = .ok (.lload_n 0, 1) := by decide +kernel
theorem dX8_cut_29 : decode cX8_cut 29 = .ok (.l2i, 1) := by decide +kernel
theorem dX8_cut_30 : decode cX8_cut 30 = .ok (.i2l, 1) := by decide +kernel
theorem dX8_cut_31 : decode cX8_cut 31 = .ok (.goto 4, 3) := by decide +kernel
theorem dX8_cut_34 : decode cX8_cut 34 = .ok (.lload_n 0, 1) := by decide +kernel
theorem dX8_cut_35 : decode cX8_cut 35 = .ok (.lreturn, 1) := by decide +kernel
set_option maxRecDepth 20000 in
theorem ggX8_tray_X8_isTray : GoodIn wsX8_tray wsX8_isTray := goodIn_r _ [7] (by decide +kernel) (by decide +kernel)
set_option maxRecDepth 20000 in
theorem gX8_tray_X8_isTray : GoodIn wsX8_tray (va_wsS RX8 80 yX8_isTray wsX8_isTray) := goodIn_app (goodIn_of _ (by decide +kernel)) ggX8_tray_X8_isTray
set_option maxRecDepth 20000 in
theorem ggX8_tray_X8_is : GoodIn wsX8_tray wsX8_is := goodIn_r _ [11, 12, 13, 14, 15, 16, 17, 18, 19, 20, 21, 22, 23, 24, 25, 26, 27, 28, 29, 30, 31, 32, 33, 34, 35, 36, 37, 38, 39, 40, 41, 42, 43, 44] (by decide +kernel) (by decide +kernel)
set_option maxRecDepth 20000 in
theorem gX8_tray_X8_is : GoodIn wsX8_tray (wsV RX8 84 RX8 yX8_is wsX8_is) := goodIn_app (goodIn_of _ (by decide +kernel)) ggX8_tray_X8_is
theorem dX8_tray_0 : decode cX8_tray 0 = .ok (.iload_n 1, 1) := by decide +kernel
theorem dX8_tray_1 : decode cX8_tray 1 = .ok (.invokestatic 80, 3) := by decide +kernel
theorem dX8_tray_4 : decode cX8_tray 4 = .ok (.ifCond .eq 22, 3) := by decide +kernel
theorem dX8_tray_7 : decode cX8_tray 7 = .ok (.iload_n 2, 1) := by decide +kernel
theorem dX8_tray_8 : decode cX8_tray 8 = .ok (.ifCond .lt 18, 3) := by decide +kernel
theorem dX8_tray_11 : decode cX8_tray 11 = .ok (.iload_n 2, 1) := by decide +kernel
theorem dX8_tray_12 : decode cX8_tray 12 = .ok (.iconst 3, 1) := by decide +kernel
theorem dX8_tray_13 : decode cX8_tray 13 = .ok (.if_icmp .gt 13, 3) := by decide +kernel
theorem dX8_tray_16 : decode cX8_tray 16 = .ok (.iload_n 3, 1) := by decide +kernel
theorem dX8_tray_17 : decode cX8_tray 17 = .ok (.ifCond .lt 9, 3) := by decide +kernel
theorem dX8_tray_20 : decode cX8_tray 20 = .ok (.iload_n 3, 1) := by decide +kernel
theorem dX8_tray_21 : decode cX8_tray 21 = .ok (.bipush 20, 2) := by decide +kernel
theorem dX8_tray_23 : decode cX8_tray 23 = .ok (.if_icmp .le 9, 3) := by decide +kernel
theorem dX8_tray_26 : decode cX8_tray 26 = .ok (.aload_n 0, 1) := by decide +kernel
theorem dX8_tray_27 : decode cX8_tray 27 = .ok (.iconst 1, 1) := by decide +kernel
theorem dX8_tray_28 : decode cX8_tray 28 = .ok (.invokevirtual 84, 3) := by decide +kernel
theorem dX8_tray_31 : decode cX8_tray 31 = .ok (.ireturn, 1) := by decide +kernel
theorem dX8_tray_32 : decode cX8_tray 32 = .ok (.aload_n 0, 1) := by decide +kernel
theorem dX8_tray_33 : decode cX8_tray 33 = .ok (.getfield 13, 3) := by decide +kernel
theorem dX8_tray_36 : decode cX8_tray 36 = .ok (.iload_n 1, 1) := by decide +kernel
theorem dX8_tray_37 : decode cX8_tray 37 = .ok (.iload_n 2, 1) := by decide +kernel
theorem dX8_tray_38 : decode cX8_tray 38 = .ok (.iastore, 1) := by decide +kernel
theorem dX8_tray_39 : decode cX8_tray 39 = .ok (.aload_n 0, 1) := by decide +kernel
theorem dX8_tray_40 : decode cX8_tray 40 = .ok (.getfield 17, 3) := by decide +kernel
theorem dX8_tray_43 : decode cX8_tray 43 = .ok (.iload_n 1, 1) := by decide +kernel
theorem dX8_tray_44 : decode cX8_tray 44 = .ok (.iload_n 3, 1) := by decide +kernel
theorem dX8_tray_45 : decode cX8_tray 45 = .ok (.iastore, 1) := by decide +kernel
theorem dX8_tray_46 : decode cX8_tray 46 = .ok (.iconst 0, 1) := by decide +kernel
theorem dX8_tray_47 : decode cX8_tray 47 = .ok (.istore 4, 2) := by decide +kernel
theorem dX8_tray_49 : decode cX8_tray 49 = .ok (.iload 4, 2) := by decide +kernel
theorem dX8_tray_51 : decode cX8_tray 51 = .ok (.iload_n 3, 1) := by decide +kernel
theorem dX8_tray_52 : decode cX8_tray 52 = .ok (.if_icmp .ge 22, 3) := by decide +kernel
theorem dX8_tray_55 : decode cX8_tray 55 = .ok (.aload_n 0, 1) := by decide +kernel
theorem dX8_tray_56 : decode cX8_tray 56 = .ok (.getfield 20, 3) := by decide +kernel
theorem dX8_tray_59 : decode cX8_tray 59 = .ok (.bipush 20, 2) := by decide +kernel
theorem dX8_tray_61 : decode cX8_tray 61 = .ok (.iload_n 1, 1) := by decide +kernel
theorem dX8_tray_62 : decode cX8_tray 62 = .ok (.imul, 1) := by decide +kernel
theorem dX8_tray_63 : decode cX8_tray 63 = .ok (.iload 4, 2) := by decide +kernel
theorem dX8_tray_65 : decode cX8_tray 65 = .ok (.iadd, 1) := by decide +kernel
theorem dX8_tray_66 : decode cX8_tray 66 = .ok (.lconst 0, 1) := by decide +kernel
theorem dX8_tray_67 : decode cX8_tray 67 = .ok (.lastore, 1) := by decide +kernel
theorem dX8_tray_68 : decode cX8_tray 68 = .ok (.iinc 4 1, 3) := by decide +kernel
theorem dX8_tray_71 : decode cX8_tray 71 = .ok (.goto (-22), 3) := by decide +kernel
theorem dX8_tray_74 : decode cX8_tray 74 = .ok (.aload_n 0, 1) := by decide +kernel
theorem dX8_tray_75 : decode cX8_tray 75 = .ok (.iconst 0, 1) := by decide +kernel
theorem dX8_tray_76 : decode cX8_tray 76 = .ok (.invokevirtual 84, 3) := by decide +kernel
theorem dX8_tray_79 : decode cX8_tray 79 = .ok (.ireturn, 1) := by decide +kernel
set_option maxRecDepth 20000 in
theorem ggX8_wrongPlace_X8_isTray : GoodIn wsX8_wrongPlace wsX8_isTray := goodIn_r _ [5] (by decide +kernel) (by decide +kernel)
set_option maxRecDepth 20000 in
theorem gX8_wrongPlace_X8_isTray : GoodIn wsX8_wrongPlace (va_wsS RX8 80 yX8_isTray wsX8_isTray) := goodIn_app (goodIn_of _ (by decide +kernel)) ggX8_wrongPlace_X8_isTray
theorem dX8_wrongPlace_0 : decode cX8_wrongPlace 0 = .ok (.iload_n 1, 1) := by decide +kernel
theorem dX8_wrongPlace_1 : decode cX8_wrongPlace 1 = .ok (.invokestatic 80, 3) := by decide +kernel
theorem dX8_wrongPlace_4 : decode cX8_wrongPlace 4 = .ok (.ifCond .ne 7, 3) := by decide +kernel
theorem dX8_wrongPlace_7 : decode cX8_wrongPlace 7 = .ok (.iconst 1, 1) := by decide +kernel
theorem dX8_wrongPlace_8 : decode cX8_wrongPlace 8 = .ok (.goto 36, 3) := by decide +kernel
theorem dX8_wrongPlace_11 : decode cX8_wrongPlace 11 = .ok (.aload_n 0, 1) := by decide +kernel
theorem dX8_wrongPlace_12 : decode cX8_wrongPlace 12 = .ok (.getfield 17, 3) := by decide +kernel
theorem dX8_wrongPlace_15 : decode cX8_wrongPlace 15 = .ok (.iload_n 1, 1) := by decide +kernel
theorem dX8_wrongPlace_16 : decode cX8_wrongPlace 16 = .ok (.iaload, 1) := by decide +kernel
theorem dX8_wrongPlace_17 : decode cX8_wrongPlace 17 = .ok (.iconst (-1), 1) := by decide +kernel
theorem dX8_wrongPlace_18 : decode cX8_wrongPlace 18 = .ok (.if_icmp .ne 7, 3) := by decide +kernel
theorem dX8_wrongPlace_21 : decode cX8_wrongPlace 21 = .ok (.iconst 3, 1) := by decide +kernel
theorem dX8_wrongPlace_22 : decode cX8_wrongPlace 22 = .ok (.goto 22, 3) := by decide +kernel
theorem dX8_wrongPlace_25 : decode cX8_wrongPlace 25 = .ok (.iload_n 2, 1) := by decide +kernel
theorem dX8_wrongPlace_26 : decode cX8_wrongPlace 26 = .ok (.ifCond .lt 13, 3) := by decide +kernel
theorem dX8_wrongPlace_29 : decode cX8_wrongPlace 29 = .ok (.iload_n 2, 1) := by decide +kernel
theorem dX8_wrongPlace_30 : decode cX8_wrongPlace 30 = .ok (.aload_n 0, 1) := by decide +kernel
theorem dX8_wrongPlace_31 : decode cX8_wrongPlace 31 = .ok (.getfield 17, 3) := by decide +kernel
theorem dX8_wrongPlace_34 : decode cX8_wrongPlace 34 = .ok (.iload_n 1, 1) := by decide +kernel
theorem dX8_wrongPlace_35 : decode cX8_wrongPlace 35 = .ok (.iaload, 1) := by decide +kernel
theorem dX8_wrongPlace_36 : decode cX8_wrongPlace 36 = .ok (.if_icmp .lt 7, 3) := by decide +kernel
theorem dX8_wrongPlace_39 : decode cX8_wrongPlace 39 = .ok (.iconst 4, 1) := by decide +kernel
theorem dX8_wrongPlace_40 : decode cX8_wrongPlace 40 = .ok (.goto 4, 3) := by decide +kernel
theorem dX8_wrongPlace_43 : decode cX8_wrongPlace 43 = .ok (.iconst 0, 1) := by decide +kernel
theorem dX8_wrongPlace_44 : decode cX8_wrongPlace 44 = .ok (.ireturn, 1) := by decide +kernel
set_option maxRecDepth 20000 in
theorem ggX8_write_X8_wrongPlace : GoodIn wsX8_write wsX8_wrongPlace := goodIn_r _ [7, 8, 9, 10, 6, 11, 20, 21, 22, 23, 24, 25, 26, 27, 28, 29, 30, 31, 32, 33, 34, 35, 36, 37, 38, 39, 40, 41, 42, 43, 44, 45, 46, 47, 48, 49, 50, 51] (by decide +kernel) (by decide +kernel)
set_option maxRecDepth 20000 in
theorem gX8_write_X8_wrongPlace : GoodIn wsX8_write (wsV RX8 87 RX8 yX8_wrongPlace wsX8_wrongPlace) := goodIn_app (goodIn_of _ (by decide +kernel)) ggX8_write_X8_wrongPlace
set_option maxRecDepth 20000 in
theorem ggX8_write_X8_cut : GoodIn wsX8_write wsX8_cut := goodIn_r _ [14] (by decide +kernel) (by decide +kernel)
set_option maxRecDepth 20000 in
theorem gX8_write_X8_cut : GoodIn wsX8_write (va_wsS RX8 91 yX8_cut wsX8_cut) := goodIn_app (goodIn_of _ (by decide +kernel)) ggX8_write_X8_cut
set_option maxRecDepth 20000 in
theorem ggX8_write_X8_is : GoodIn wsX8_write wsX8_is := goodIn_r _ [18, 19, 20, 21, 22, 23, 24, 25, 26, 27, 28, 29, 30, 31, 32, 33, 34, 35, 36, 37, 38, 39, 40, 41, 42, 43, 44, 45, 46, 47, 48, 49, 50, 51] (by decide +kernel) (by decide +kernel)
set_option maxRecDepth 20000 in
theorem gX8_write_X8_is : GoodIn wsX8_write (wsV RX8 84 RX8 yX8_is wsX8_is) := goodIn_app (goodIn_of _ (by decide +kernel)) ggX8_write_X8_is
theorem dX8_write_0 : decode cX8_write 0 = .ok (.aload_n 0, 1) := by decide +kernel
theorem dX8_write_1 : decode cX8_write 1 = .ok (.iload_n 1, 1) := by decide +kernel
theorem dX8_write_2 : decode cX8_write 2 = .ok (.iload_n 2, 1) := by decide +kernel
theorem dX8_write_3 : decode cX8_write 3 = .ok (.invokevirtual 87, 3) := by decide +kernel
theorem dX8_write_6 : decode cX8_write 6 = .ok (.istore 5, 2) := by decide +kernel
theorem dX8_write_8 : decode cX8_write 8 = .ok (.iload 5, 2) := by decide +kernel
theorem dX8_write_10 : decode cX8_write 10 = .ok (.ifCond .ne 24, 3) := by decide +kernel
theorem dX8_write_13 : decode cX8_write 13 = .ok (.aload_n 0, 1) := by decide +kernel
theorem dX8_write_14 : decode cX8_write 14 = .ok (.getfield 20, 3) := by decide +kernel
theorem dX8_write_17 : decode cX8_write 17 = .ok (.bipush 20, 2) := by decide +kernel
theorem dX8_write_19 : decode cX8_write 19 = .ok (.iload_n 1, 1) := by decide +kernel
theorem dX8_write_20 : decode cX8_write 20 = .ok (.imul, 1) := by decide +kernel
theorem dX8_write_21 : decode cX8_write 21 = .ok (.iload_n 2, 1) := by decide +kernel
theorem dX8_write_22 : decode cX8_write 22 = .ok (.iadd, 1) := by decide +kernel
theorem dX8_write_23 : decode cX8_write 23 = .ok (.lload_n 3, 1) := by decide +kernel
theorem dX8_write_24 : decode cX8_write 24 = .ok (.aload_n 0, 1) := by decide +kernel
theorem dX8_write_25 : decode cX8_write 25 = .ok (.getfield 13, 3) := by decide +kernel
theorem dX8_write_28 : decode cX8_write 28 = .ok (.iload_n 1, 1) := by decide +kernel
theorem dX8_write_29 : decode cX8_write 29 = .ok (.iaload, 1) := by decide +kernel
theorem dX8_write_30 : decode cX8_write 30 = .ok (.invokestatic 91, 3) := by decide +kernel
theorem dX8_write_33 : decode cX8_write 33 = .ok (.lastore, 1) := by decide +kernel
theorem dX8_write_34 : decode cX8_write 34 = .ok (.aload_n 0, 1) := by decide +kernel
theorem dX8_write_35 : decode cX8_write 35 = .ok (.iload 5, 2) := by decide +kernel
theorem dX8_write_37 : decode cX8_write 37 = .ok (.invokevirtual 84, 3) := by decide +kernel
theorem dX8_write_40 : decode cX8_write 40 = .ok (.ireturn, 1) := by decide +kernel
set_option maxRecDepth 20000 in
theorem ggX8_read_X8_wrongPlace : GoodIn wsX8_read wsX8_wrongPlace := goodIn_r _ [8, 9, 10, 11, 7, 12, 13, 14, 15, 16, 17, 18, 19, 20, 21, 22, 23, 24, 25, 26, 27, 28, 29, 30, 31, 32, 33, 34, 35, 36, 37, 38, 39, 40, 41, 42, 43, 44] (by decide +kernel) (by decide +kernel)
set_option maxRecDepth 20000 in
theorem gX8_read_X8_wrongPlace : GoodIn wsX8_read (wsV RX8 87 RX8 yX8_wrongPlace wsX8_wrongPlace) := goodIn_app (goodIn_of _ (by decide +kernel)) ggX8_read_X8_wrongPlace
theorem dX8_read_0 : decode cX8_read 0 = .ok (.aload_n 0, 1) := by decide +kernel
theorem dX8_read_1 : decode cX8_read 1 = .ok (.aload_n 0, 1) := by decide +kernel
theorem dX8_read_2 : decode cX8_read 2 = .ok (.iload_n 1, 1) := by decide +kernel
theorem dX8_read_3 : decode cX8_read 3 = .ok (.iload_n 2, 1) := by decide +kernel
theorem dX8_read_4 : decode cX8_read 4 = .ok (.invokevirtual 87, 3) := by decide +kernel
theorem dX8_read_7 : decode cX8_read 7 = .ok (.putfield 74, 3) := by decide +kernel
theorem dX8_read_10 : decode cX8_read 10 = .ok (.aload_n 0, 1) := by decide +kernel
theorem dX8_read_11 : decode cX8_read 11 = .ok (.getfield 74, 3) := by decide +kernel
theorem dX8_read_14 : decode cX8_read 14 = .ok (.ifCond .le 9, 3) := by decide +kernel
theorem dX8_read_17 : decode cX8_read 17 = .ok (.ldc2_w 95, 3) := by decide +kernel
theorem dX8_read_20 : decode cX8_read 20 = .ok (.goto 14, 3) := by decide +kernel
theorem dX8_read_23 : decode cX8_read 23 = .ok (.aload_n 0, 1) := by decide +kernel
theorem dX8_read_24 : decode cX8_read 24 = .ok (.getfield 20, 3) := by decide +kernel
theorem dX8_read_27 : decode cX8_read 27 = .ok (.bipush 20, 2) := by decide +kernel
theorem dX8_read_29 : decode cX8_read 29 = .ok (.iload_n 1, 1) := by decide +kernel
theorem dX8_read_30 : decode cX8_read 30 = .ok (.imul, 1) := by decide +kernel
theorem dX8_read_31 : decode cX8_read 31 = .ok (.iload_n 2, 1) := by decide +kernel
theorem dX8_read_32 : decode cX8_read 32 = .ok (.iadd, 1) := by decide +kernel
theorem dX8_read_33 : decode cX8_read 33 = .ok (.laload, 1) := by decide +kernel
theorem dX8_read_34 : decode cX8_read 34 = .ok (.lreturn, 1) := by decide +kernel
set_option maxRecDepth 20000 in
theorem ggX8_pour_X8_isTray : GoodIn wsX8_pour wsX8_isTray := goodIn_r _ [7] (by decide +kernel) (by decide +kernel)
set_option maxRecDepth 20000 in
theorem gX8_pour_X8_isTray : GoodIn wsX8_pour (va_wsS RX8 80 yX8_isTray wsX8_isTray) := goodIn_app (goodIn_of _ (by decide +kernel)) ggX8_pour_X8_isTray
set_option maxRecDepth 20000 in
theorem ggX8_pour_X8_is : GoodIn wsX8_pour wsX8_is := goodIn_r _ [11, 12, 13, 14, 15, 16, 17, 18, 19, 20, 21, 22, 23, 24, 25, 26, 27, 28, 29, 30, 31, 32, 33, 34, 35, 36, 37, 38, 39, 40, 41, 42, 43, 44] (by decide +kernel) (by decide +kernel)
set_option maxRecDepth 20000 in
theorem gX8_pour_X8_is : GoodIn wsX8_pour (wsV RX8 84 RX8 yX8_is wsX8_is) := goodIn_app (goodIn_of _ (by decide +kernel)) ggX8_pour_X8_is
theorem dX8_pour_0 : decode cX8_pour 0 = .ok (.iload_n 1, 1) := by decide +kernel
theorem dX8_pour_1 : decode cX8_pour 1 = .ok (.invokestatic 80, 3) := by decide +kernel
theorem dX8_pour_4 : decode cX8_pour 4 = .ok (.ifCond .eq 24, 3) := by decide +kernel
theorem dX8_pour_7 : decode cX8_pour 7 = .ok (.iload_n 3, 1) := by decide +kernel
theorem dX8_pour_8 : decode cX8_pour 8 = .ok (.invokestatic 80, 3) := by decide +kernel
theorem dX8_pour_11 : decode cX8_pour 11 = .ok (.ifCond .eq 17, 3) := by decide +kernel
theorem dX8_pour_14 : decode cX8_pour 14 = .ok (.iload_n 2, 1) := by decide +kernel
theorem dX8_pour_15 : decode cX8_pour 15 = .ok (.ifCond .lt 13, 3) := by decide +kernel
theorem dX8_pour_18 : decode cX8_pour 18 = .ok (.iload 4, 2) := by decide +kernel
theorem dX8_pour_20 : decode cX8_pour 20 = .ok (.ifCond .lt 8, 3) := by decide +kernel
theorem dX8_pour_23 : decode cX8_pour 23 = .ok (.iload 5, 2) := by decide +kernel
theorem dX8_pour_25 : decode cX8_pour 25 = .ok (.ifCond .ge 9, 3) := by decide +kernel
theorem dX8_pour_28 : decode cX8_pour 28 = .ok (.aload_n 0, 1) := by decide +kernel
theorem dX8_pour_29 : decode cX8_pour 29 = .ok (.iconst 1, 1) := by decide +kernel
theorem dX8_pour_30 : decode cX8_pour 30 = .ok (.invokevirtual 84, 3) := by decide +kernel
theorem dX8_pour_33 : decode cX8_pour 33 = .ok (.ireturn, 1) := by decide +kernel
theorem dX8_pour_34 : decode cX8_pour 34 = .ok (.aload_n 0, 1) := by decide +kernel
theorem dX8_pour_35 : decode cX8_pour 35 = .ok (.getfield 17, 3) := by decide +kernel
theorem dX8_pour_38 : decode cX8_pour 38 = .ok (.iload_n 1, 1) := by decide +kernel
theorem dX8_pour_39 : decode cX8_pour 39 = .ok (.iaload, 1) := by decide +kernel
theorem dX8_pour_40 : decode cX8_pour 40 = .ok (.iconst (-1), 1) := by decide +kernel
theorem dX8_pour_41 : decode cX8_pour 41 = .ok (.if_icmp .eq 13, 3) := by decide +kernel
theorem dX8_pour_44 : decode cX8_pour 44 = .ok (.aload_n 0, 1) := by decide +kernel
theorem dX8_pour_45 : decode cX8_pour 45 = .ok (.getfield 17, 3) := by decide +kernel
theorem dX8_pour_48 : decode cX8_pour 48 = .ok (.iload_n 3, 1) := by decide +kernel
theorem dX8_pour_49 : decode cX8_pour 49 = .ok (.iaload, 1) := by decide +kernel
theorem dX8_pour_50 : decode cX8_pour 50 = .ok (.iconst (-1), 1) := by decide +kernel
theorem dX8_pour_51 : decode cX8_pour 51 = .ok (.if_icmp .ne 9, 3) := by decide +kernel
theorem dX8_pour_54 : decode cX8_pour 54 = .ok (.aload_n 0, 1) := by decide +kernel
theorem dX8_pour_55 : decode cX8_pour 55 = .ok (.iconst 3, 1) := by decide +kernel
theorem dX8_pour_56 : decode cX8_pour 56 = .ok (.invokevirtual 84, 3) := by decide +kernel
theorem dX8_pour_59 : decode cX8_pour 59 = .ok (.ireturn, 1) := by decide +kernel
theorem dX8_pour_60 : decode cX8_pour 60 = .ok (.aload_n 0, 1) := by decide +kernel
theorem dX8_pour_61 : decode cX8_pour 61 = .ok (.getfield 13, 3) := by decide +kernel
theorem dX8_pour_64 : decode cX8_pour 64 = .ok (.iload_n 1, 1) := by decide +kernel
theorem dX8_pour_65 : decode cX8_pour 65 = .ok (.iaload, 1) := by decide +kernel
theorem dX8_pour_66 : decode cX8_pour 66 = .ok (.aload_n 0, 1) := by decide +kernel
theorem dX8_pour_67 : decode cX8_pour 67 = .ok (.getfield 13, 3) := by decide +kernel
theorem dX8_pour_70 : decode cX8_pour 70 = .ok (.iload_n 3, 1) := by decide +kernel
theorem dX8_pour_71 : decode cX8_pour 71 = .ok (.iaload, 1) := by decide +kernel
theorem dX8_pour_72 : decode cX8_pour 72 = .ok (.if_icmp .eq 10, 3) := by decide +kernel
theorem dX8_pour_75 : decode cX8_pour 75 = .ok (.aload_n 0, 1) := by decide +kernel
theorem dX8_pour_76 : decode cX8_pour 76 = .ok (.bipush 8, 2) := by decide +kernel
theorem dX8_pour_78 : decode cX8_pour 78 = .ok (.invokevirtual 84, 3) := by decide +kernel
theorem dX8_pour_81 : decode cX8_pour 81 = .ok (.ireturn, 1) := by decide +kernel
theorem dX8_pour_82 : decode cX8_pour 82 = .ok (.iload 5, 2) := by decide +kernel
theorem dX8_pour_84 : decode cX8_pour 84 = .ok (.aload_n 0, 1) := by decide +kernel
theorem dX8_pour_85 : decode cX8_pour 85 = .ok (.getfield 17, 3) := by decide +kernel
theorem dX8_pour_88 : decode cX8_pour 88 = .ok (.iload_n 1, 1) := by decide +kernel
theorem dX8_pour_89 : decode cX8_pour 89 = .ok (.iaload, 1) := by decide +kernel
theorem dX8_pour_90 : decode cX8_pour 90 = .ok (.iload_n 2, 1) := by decide +kernel
theorem dX8_pour_91 : decode cX8_pour 91 = .ok (.isub, 1) := by decide +kernel
theorem dX8_pour_92 : decode cX8_pour 92 = .ok (.if_icmp .gt 17, 3) := by decide +kernel
theorem dX8_pour_95 : decode cX8_pour 95 = .ok (.iload 5, 2) := by decide +kernel
theorem dX8_pour_97 : decode cX8_pour 97 = .ok (.aload_n 0, 1) := by decide +kernel
theorem dX8_pour_98 : decode cX8_pour 98 = .ok (.getfield 17, 3) := by decide +kernel
theorem dX8_pour_101 : decode cX8_pour 101 = .ok (.iload_n 3, 1) := by decide +kernel
theorem dX8_pour_102 : decode cX8_pour 102 = .ok (.iaload, 1) := by decide +kernel
theorem dX8_pour_103 : decode cX8_pour 103 = .ok (.iload 4, 2) := by decide +kernel
theorem dX8_pour_105 : decode cX8_pour 105 = .ok (.isub, 1) := by decide +kernel
theorem dX8_pour_106 : decode cX8_pour 106 = .ok (.if_icmp .le 9, 3) := by decide +kernel
theorem dX8_pour_109 : decode cX8_pour 109 = .ok (.aload_n 0, 1) := by decide +kernel
theorem dX8_pour_110 : decode cX8_pour 110 = .ok (.iconst 4, 1) := by decide +kernel
theorem dX8_pour_111 : decode cX8_pour 111 = .ok (.invokevirtual 84, 3) := by decide +kernel
theorem dX8_pour_114 : decode cX8_pour 114 = .ok (.ireturn, 1) := by decide +kernel
theorem dX8_pour_115 : decode cX8_pour 115 = .ok (.iconst 0, 1) := by decide +kernel
theorem dX8_pour_116 : decode cX8_pour 116 = .ok (.istore 6, 2) := by decide +kernel
theorem dX8_pour_118 : decode cX8_pour 118 = .ok (.iload 6, 2) := by decide +kernel
theorem dX8_pour_120 : decode cX8_pour 120 = .ok (.iload 5, 2) := by decide +kernel
theorem dX8_pour_122 : decode cX8_pour 122 = .ok (.if_icmp .ge 58, 3) := by decide +kernel
theorem dX8_pour_125 : decode cX8_pour 125 = .ok (.iload_n 2, 1) := by decide +kernel
theorem dX8_pour_126 : decode cX8_pour 126 = .ok (.iload 4, 2) := by decide +kernel
theorem dX8_pour_128 : decode cX8_pour 128 = .ok (.if_icmp .ge 13, 3) := by decide +kernel
theorem dX8_pour_131 : decode cX8_pour 131 = .ok (.iload 5, 2) := by decide +kernel
theorem dX8_pour_133 : decode cX8_pour 133 = .ok (.iconst 1, 1) := by decide +kernel
theorem dX8_pour_134 : decode cX8_pour 134 = .ok (.isub, 1) := by decide +kernel
theorem dX8_pour_135 : decode cX8_pour 135 = .ok (.iload 6, 2) := by decide +kernel
theorem dX8_pour_137 : decode cX8_pour 137 = .ok (.isub, 1) := by decide +kernel
theorem dX8_pour_138 : decode cX8_pour 138 = .ok (.goto 5, 3) := by decide +kernel
theorem dX8_pour_141 : decode cX8_pour 141 = .ok (.iload 6, 2) := by decide +kernel
theorem dX8_pour_143 : decode cX8_pour 143 = .ok (.istore 7, 2) := by decide +kernel
theorem dX8_pour_145 : decode cX8_pour 145 = .ok (.aload_n 0, 1) := by decide +kernel
theorem dX8_pour_146 : decode cX8_pour 146 = .ok (.getfield 20, 3) := by decide +kernel
theorem dX8_pour_149 : decode cX8_pour 149 = .ok (.bipush 20, 2) := by decide +kernel
theorem dX8_pour_151 : decode cX8_pour 151 = .ok (.iload_n 3, 1) := by decide +kernel
theorem dX8_pour_152 : decode cX8_pour 152 = .ok (.imul, 1) := by decide +kernel
theorem dX8_pour_153 : decode cX8_pour 153 = .ok (.iload 4, 2) := by decide +kernel
theorem dX8_pour_155 : decode cX8_pour 155 = .ok (.iadd, 1) := by decide +kernel
theorem dX8_pour_156 : decode cX8_pour 156 = .ok (.iload 7, 2) := by decide +kernel
theorem dX8_pour_158 : decode cX8_pour 158 = .ok (.iadd, 1) := by decide +kernel
theorem dX8_pour_159 : decode cX8_pour 159 = .ok (.aload_n 0, 1) := by decide +kernel
theorem dX8_pour_160 : decode cX8_pour 160 = .ok (.getfield 20, 3) := by decide +kernel
theorem dX8_pour_163 : decode cX8_pour 163 = .ok (.bipush 20, 2) := by decide +kernel
theorem dX8_pour_165 : decode cX8_pour 165 = .ok (.iload_n 1, 1) := by decide +kernel
theorem dX8_pour_166 : decode cX8_pour 166 = .ok (.imul, 1) := by decide +kernel
theorem dX8_pour_167 : decode cX8_pour 167 = .ok (.iload_n 2, 1) := by decide +kernel
theorem dX8_pour_168 : decode cX8_pour 168 = .ok (.iadd, 1) := by decide +kernel
theorem dX8_pour_169 : decode cX8_pour 169 = .ok (.iload 7, 2) := by decide +kernel
theorem dX8_pour_171 : decode cX8_pour 171 = .ok (.iadd, 1) := by decide +kernel
theorem dX8_pour_172 : decode cX8_pour 172 = .ok (.laload, 1) := by decide +kernel
theorem dX8_pour_173 : decode cX8_pour 173 = .ok (.lastore, 1) := by decide +kernel
theorem dX8_pour_174 : decode cX8_pour 174 = .ok (.iinc 6 1, 3) := by decide +kernel
theorem dX8_pour_177 : decode cX8_pour 177 = .ok (.goto (-59), 3) := by decide +kernel
theorem dX8_pour_180 : decode cX8_pour 180 = .ok (.aload_n 0, 1) := by decide +kernel
theorem dX8_pour_181 : decode cX8_pour 181 = .ok (.iconst 0, 1) := by decide +kernel
theorem dX8_pour_182 : decode cX8_pour 182 = .ok (.invokevirtual 84, 3) := by decide +kernel
theorem dX8_pour_185 : decode cX8_pour 185 = .ok (.ireturn, 1) := by decide +kernel
theorem dX8_isLayer_0 : decode cX8_isLayer 0 = .ok (.iload_n 0, 1) := by decide +kernel
theorem dX8_isLayer_1 : decode cX8_isLayer 1 = .ok (.ifCond .lt 12, 3) := by decide +kernel
theorem dX8_isLayer_4 : decode cX8_isLayer 4 = .ok (.iload_n 0, 1) := by decide +kernel
theorem dX8_isLayer_5 : decode cX8_isLayer 5 = .ok (.iconst 4, 1) := by decide +kernel
theorem dX8_isLayer_6 : decode cX8_isLayer 6 = .ok (.if_icmp .ge 7, 3) := by decide +kernel
theorem dX8_isLayer_9 : decode cX8_isLayer 9 = .ok (.iconst 1, 1) := by decide +kernel
theorem dX8_isLayer_10 : decode cX8_isLayer 10 = .ok (.goto 4, 3) := by decide +kernel
theorem dX8_isLayer_13 : decode cX8_isLayer 13 = .ok (.iconst 0, 1) := by decide +kernel
theorem dX8_isLayer_14 : decode cX8_isLayer 14 = .ok (.ireturn, 1) := by decide +kernel
theorem dX8_isPoll_0 : decode cX8_isPoll 0 = .ok (.iload_n 1, 1) := by decide +kernel
theorem dX8_isPoll_1 : decode cX8_isPoll 1 = .ok (.ifCond .lt 15, 3) := by decide +kernel
theorem dX8_isPoll_4 : decode cX8_isPoll 4 = .ok (.iload_n 1, 1) := by decide +kernel
theorem dX8_isPoll_5 : decode cX8_isPoll 5 = .ok (.aload_n 0, 1) := by decide +kernel
theorem dX8_isPoll_6 : decode cX8_isPoll 6 = .ok (.getfield 97, 3) := by decide +kernel
theorem dX8_isPoll_9 : decode cX8_isPoll 9 = .ok (.if_icmp .ge 7, 3) := by decide +kernel
theorem dX8_isPoll_12 : decode cX8_isPoll 12 = .ok (.iconst 1, 1) := by decide +kernel
theorem dX8_isPoll_13 : decode cX8_isPoll 13 = .ok (.goto 4, 3) := by decide +kernel
theorem dX8_isPoll_16 : decode cX8_isPoll 16 = .ok (.iconst 0, 1) := by decide +kernel
theorem dX8_isPoll_17 : decode cX8_isPoll 17 = .ok (.ireturn, 1) := by decide +kernel
theorem dX8_isParty_0 : decode cX8_isParty 0 = .ok (.iload_n 1, 1) := by decide +kernel
theorem dX8_isParty_1 : decode cX8_isParty 1 = .ok (.ifCond .lt 15, 3) := by decide +kernel
theorem dX8_isParty_4 : decode cX8_isParty 4 = .ok (.iload_n 1, 1) := by decide +kernel
theorem dX8_isParty_5 : decode cX8_isParty 5 = .ok (.aload_n 0, 1) := by decide +kernel
theorem dX8_isParty_6 : decode cX8_isParty 6 = .ok (.getfield 24, 3) := by decide +kernel
theorem dX8_isParty_9 : decode cX8_isParty 9 = .ok (.if_icmp .ge 7, 3) := by decide +kernel
theorem dX8_isParty_12 : decode cX8_isParty 12 = .ok (.iconst 1, 1) := by decide +kernel
theorem dX8_isParty_13 : decode cX8_isParty 13 = .ok (.goto 4, 3) := by decide +kernel
theorem dX8_isParty_16 : decode cX8_isParty 16 = .ok (.iconst 0, 1) := by decide +kernel
theorem dX8_isParty_17 : decode cX8_isParty 17 = .ok (.ireturn, 1) := by decide +kernel
theorem dX8_isSheet_0 : decode cX8_isSheet 0 = .ok (.iload_n 1, 1) := by decide +kernel
theorem dX8_isSheet_1 : decode cX8_isSheet 1 = .ok (.ifCond .lt 15, 3) := by decide +kernel
theorem dX8_isSheet_4 : decode cX8_isSheet 4 = .ok (.iload_n 1, 1) := by decide +kernel
theorem dX8_isSheet_5 : decode cX8_isSheet 5 = .ok (.aload_n 0, 1) := by decide +kernel
theorem dX8_isSheet_6 : decode cX8_isSheet 6 = .ok (.getfield 100, 3) := by decide +kernel
theorem dX8_isSheet_9 : decode cX8_isSheet 9 = .ok (.if_icmp .ge 7, 3) := by decide +kernel
theorem dX8_isSheet_12 : decode cX8_isSheet 12 = .ok (.iconst 1, 1) := by decide +kernel
theorem dX8_isSheet_13 : decode cX8_isSheet 13 = .ok (.goto 4, 3) := by decide +kernel
theorem dX8_isSheet_16 : decode cX8_isSheet 16 = .ok (.iconst 0, 1) := by decide +kernel
theorem dX8_isSheet_17 : decode cX8_isSheet 17 = .ok (.ireturn, 1) := by decide +kernel
theorem dX8_isMinute_0 : decode cX8_isMinute 0 = .ok (.iload_n 0, 1) := by decide +kernel
theorem dX8_isMinute_1 : decode cX8_isMinute 1 = .ok (.ifCond .lt 14, 3) := by decide +kernel
theorem dX8_isMinute_4 : decode cX8_isMinute 4 = .ok (.iload_n 0, 1) := by decide +kernel
theorem dX8_isMinute_5 : decode cX8_isMinute 5 = .ok (.sipush 10000, 3) := by decide +kernel
theorem dX8_isMinute_8 : decode cX8_isMinute 8 = .ok (.if_icmp .gt 7, 3) := by decide +kernel
theorem dX8_isMinute_11 : decode cX8_isMinute 11 = .ok (.iconst 1, 1) := by decide +kernel
theorem dX8_isMinute_12 : decode cX8_isMinute 12 = .ok (.goto 4, 3) := by decide +kernel
theorem dX8_isMinute_15 : decode cX8_isMinute 15 = .ok (.iconst 0, 1) := by decide +kernel
theorem dX8_isMinute_16 : decode cX8_isMinute 16 = .ok (.ireturn, 1) := by decide +kernel
set_option maxRecDepth 20000 in
theorem ggX8_parties_X8_is : GoodIn wsX8_parties wsX8_is := goodIn_r _ [8, 9, 10, 11, 12, 13, 14, 15, 16, 17, 18, 19, 20, 21, 22, 23, 24, 25, 26, 27, 28, 29, 30, 31, 32, 33, 34, 35, 36, 37, 38, 39, 40, 41] (by decide +kernel) (by decide +kernel)
set_option maxRecDepth 20000 in
theorem gX8_parties_X8_is : GoodIn wsX8_parties (wsV RX8 84 RX8 yX8_is wsX8_is) := goodIn_app (goodIn_of _ (by decide +kernel)) ggX8_parties_X8_is
theorem dX8_parties_0 : decode cX8_parties 0 = .ok (.iload_n 1, 1) := by decide +kernel
theorem dX8_parties_1 : decode cX8_parties 1 = .ok (.iconst 2, 1) := by decide +kernel
theorem dX8_parties_2 : decode cX8_parties 2 = .ok (.if_icmp .lt 8, 3) := by decide +kernel
theorem dX8_parties_5 : decode cX8_parties 5 = .ok (.iload_n 1, 1) := by decide +kernel
theorem dX8_parties_6 : decode cX8_parties 6 = .ok (.iconst 4, 1) := by decide +kernel
theorem dX8_parties_7 : decode cX8_parties 7 = .ok (.if_icmp .le 9, 3) := by decide +kernel
theorem dX8_parties_10 : decode cX8_parties 10 = .ok (.aload_n 0, 1) := by decide +kernel
theorem dX8_parties_11 : decode cX8_parties 11 = .ok (.iconst 1, 1) := by decide +kernel
theorem dX8_parties_12 : decode cX8_parties 12 = .ok (.invokevirtual 84, 3) := by decide +kernel
theorem dX8_parties_15 : decode cX8_parties 15 = .ok (.ireturn, 1) := by decide +kernel
theorem dX8_parties_16 : decode cX8_parties 16 = .ok (.aload_n 0, 1) := by decide +kernel
theorem dX8_parties_17 : decode cX8_parties 17 = .ok (.getfield 100, 3) := by decide +kernel
theorem dX8_parties_20 : decode cX8_parties 20 = .ok (.ifCond .gt 10, 3) := by decide +kernel
theorem dX8_parties_23 : decode cX8_parties 23 = .ok (.aload_n 0, 1) := by decide +kernel
theorem dX8_parties_24 : decode cX8_parties 24 = .ok (.getfield 103, 3) := by decide +kernel
theorem dX8_parties_27 : decode cX8_parties 27 = .ok (.ifCond .eq 10, 3) := by decide +kernel
theorem dX8_parties_30 : decode cX8_parties 30 = .ok (.aload_n 0, 1) := by decide +kernel
theorem dX8_parties_31 : decode cX8_parties 31 = .ok (.bipush 7, 2) := by decide +kernel
theorem dX8_parties_33 : decode cX8_parties 33 = .ok (.invokevirtual 84, 3) := by decide +kernel
theorem dX8_parties_36 : decode cX8_parties 36 = .ok (.ireturn, 1) := by decide +kernel
theorem dX8_parties_37 : decode cX8_parties 37 = .ok (.aload_n 0, 1) := by decide +kernel
theorem dX8_parties_38 : decode cX8_parties 38 = .ok (.iload_n 1, 1) := by decide +kernel
theorem dX8_parties_39 : decode cX8_parties 39 = .ok (.putfield 24, 3) := by decide +kernel
theorem dX8_parties_42 : decode cX8_parties 42 = .ok (.aload_n 0, 1) := by decide +kernel
theorem dX8_parties_43 : decode cX8_parties 43 = .ok (.iconst 0, 1) := by decide +kernel
theorem dX8_parties_44 : decode cX8_parties 44 = .ok (.invokevirtual 84, 3) := by decide +kernel
theorem dX8_parties_47 : decode cX8_parties 47 = .ok (.ireturn, 1) := by decide +kernel
set_option maxRecDepth 20000 in
theorem ggX8_poll_X8_isLayer : GoodIn wsX8_poll wsX8_isLayer := goodIn_r _ [11] (by decide +kernel) (by decide +kernel)
set_option maxRecDepth 20000 in
theorem gX8_poll_X8_isLayer : GoodIn wsX8_poll (va_wsS RX8 107 yX8_isLayer wsX8_isLayer) := goodIn_app (goodIn_of _ (by decide +kernel)) ggX8_poll_X8_isLayer
set_option maxRecDepth 20000 in
theorem ggX8_poll_X8_refuse : GoodIn wsX8_poll wsX8_refuse := goodIn_r _ [15, 7, 16, 17, 18, 19, 20, 21, 22, 23, 24, 25, 26, 27, 28, 29, 30, 31, 32, 33, 34, 35, 36, 37, 38, 39, 40, 41, 42, 43, 44, 45, 46, 47] (by decide +kernel) (by decide +kernel)
set_option maxRecDepth 20000 in
theorem gX8_poll_X8_refuse : GoodIn wsX8_poll (wsV RX8 110 RX8 yX8_refuse wsX8_refuse) := goodIn_app (goodIn_of _ (by decide +kernel)) ggX8_poll_X8_refuse
theorem dX8_poll_0 : decode cX8_poll 0 = .ok (.iload_n 1, 1) := by decide +kernel
theorem dX8_poll_1 : decode cX8_poll 1 = .ok (.invokestatic 107, 3) := by decide +kernel
theorem dX8_poll_4 : decode cX8_poll 4 = .ok (.ifCond .eq 15, 3) := by decide +kernel
theorem dX8_poll_7 : decode cX8_poll 7 = .ok (.iload_n 2, 1) := by decide +kernel
theorem dX8_poll_8 : decode cX8_poll 8 = .ok (.iconst 1, 1) := by decide +kernel
theorem dX8_poll_9 : decode cX8_poll 9 = .ok (.if_icmp .lt 10, 3) := by decide +kernel
theorem dX8_poll_12 : decode cX8_poll 12 = .ok (.iload_n 2, 1) := by decide +kernel
theorem dX8_poll_13 : decode cX8_poll 13 = .ok (.sipush 2000, 3) := by decide +kernel
theorem dX8_poll_16 : decode cX8_poll 16 = .ok (.if_icmp .le 9, 3) := by decide +kernel
theorem dX8_poll_19 : decode cX8_poll 19 = .ok (.aload_n 0, 1) := by decide +kernel
theorem dX8_poll_20 : decode cX8_poll 20 = .ok (.iconst 1, 1) := by decide +kernel
theorem dX8_poll_21 : decode cX8_poll 21 = .ok (.invokevirtual 110, 3) := by decide +kernel
theorem dX8_poll_24 : decode cX8_poll 24 = .ok (.ireturn, 1) := by decide +kernel
theorem dX8_poll_25 : decode cX8_poll 25 = .ok (.aload_n 0, 1) := by decide +kernel
theorem dX8_poll_26 : decode cX8_poll 26 = .ok (.getfield 97, 3) := by decide +kernel
theorem dX8_poll_29 : decode cX8_poll 29 = .ok (.bipush 40, 2) := by decide +kernel
theorem dX8_poll_31 : decode cX8_poll 31 = .ok (.if_icmp .ne 10, 3) := by decide +kernel
theorem dX8_poll_34 : decode cX8_poll 34 = .ok (.aload_n 0, 1) := by decide +kernel
theorem dX8_poll_35 : decode cX8_poll 35 = .ok (.bipush 7, 2) := by decide +kernel
theorem dX8_poll_37 : decode cX8_poll 37 = .ok (.invokevirtual 110, 3) := by decide +kernel
theorem dX8_poll_40 : decode cX8_poll 40 = .ok (.ireturn, 1) := by decide +kernel
theorem dX8_poll_41 : decode cX8_poll 41 = .ok (.aload_n 0, 1) := by decide +kernel
theorem dX8_poll_42 : decode cX8_poll 42 = .ok (.getfield 28, 3) := by decide +kernel
theorem dX8_poll_45 : decode cX8_poll 45 = .ok (.aload_n 0, 1) := by decide +kernel
theorem dX8_poll_46 : decode cX8_poll 46 = .ok (.getfield 97, 3) := by decide +kernel
theorem dX8_poll_49 : decode cX8_poll 49 = .ok (.iload_n 1, 1) := by decide +kernel
theorem dX8_poll_50 : decode cX8_poll 50 = .ok (.iastore, 1) := by decide +kernel
theorem dX8_poll_51 : decode cX8_poll 51 = .ok (.aload_n 0, 1) := by decide +kernel
theorem dX8_poll_52 : decode cX8_poll 52 = .ok (.getfield 31, 3) := by decide +kernel
theorem dX8_poll_55 : decode cX8_poll 55 = .ok (.aload_n 0, 1) := by decide +kernel
theorem dX8_poll_56 : decode cX8_poll 56 = .ok (.getfield 97, 3) := by decide +kernel
theorem dX8_poll_59 : decode cX8_poll 59 = .ok (.iload_n 2, 1) := by decide +kernel
theorem dX8_poll_60 : decode cX8_poll 60 = .ok (.iastore, 1) := by decide +kernel
theorem dX8_poll_61 : decode cX8_poll 61 = .ok (.aload_n 0, 1) := by decide +kernel
theorem dX8_poll_62 : decode cX8_poll 62 = .ok (.getfield 40, 3) := by decide +kernel
theorem dX8_poll_65 : decode cX8_poll 65 = .ok (.aload_n 0, 1) := by decide +kernel
theorem dX8_poll_66 : decode cX8_poll 66 = .ok (.getfield 97, 3) := by decide +kernel
theorem dX8_poll_69 : decode cX8_poll 69 = .ok (.iconst 0, 1) := by decide +kernel
theorem dX8_poll_70 : decode cX8_poll 70 = .ok (.bastore, 1) := by decide +kernel
theorem dX8_poll_71 : decode cX8_poll 71 = .ok (.aload_n 0, 1) := by decide +kernel
theorem dX8_poll_72 : decode cX8_poll 72 = .ok (.getfield 44, 3) := by decide +kernel
theorem dX8_poll_75 : decode cX8_poll 75 = .ok (.aload_n 0, 1) := by decide +kernel
theorem dX8_poll_76 : decode cX8_poll 76 = .ok (.getfield 97, 3) := by decide +kernel
theorem dX8_poll_79 : decode cX8_poll 79 = .ok (.iconst 0, 1) := by decide +kernel
theorem dX8_poll_80 : decode cX8_poll 80 = .ok (.bastore, 1) := by decide +kernel
theorem dX8_poll_81 : decode cX8_poll 81 = .ok (.aload_n 0, 1) := by decide +kernel
theorem dX8_poll_82 : decode cX8_poll 82 = .ok (.getfield 50, 3) := by decide +kernel
theorem dX8_poll_85 : decode cX8_poll 85 = .ok (.aload_n 0, 1) := by decide +kernel
theorem dX8_poll_86 : decode cX8_poll 86 = .ok (.getfield 97, 3) := by decide +kernel
theorem dX8_poll_89 : decode cX8_poll 89 = .ok (.iconst 0, 1) := by decide +kernel
theorem dX8_poll_90 : decode cX8_poll 90 = .ok (.bastore, 1) := by decide +kernel
theorem dX8_poll_91 : decode cX8_poll 91 = .ok (.aload_n 0, 1) := by decide +kernel
theorem dX8_poll_92 : decode cX8_poll 92 = .ok (.dup, 1) := by decide +kernel
theorem dX8_poll_93 : decode cX8_poll 93 = .ok (.getfield 97, 3) := by decide +kernel
theorem dX8_poll_96 : decode cX8_poll 96 = .ok (.iconst 1, 1) := by decide +kernel
theorem dX8_poll_97 : decode cX8_poll 97 = .ok (.iadd, 1) := by decide +kernel
theorem dX8_poll_98 : decode cX8_poll 98 = .ok (.putfield 97, 3) := by decide +kernel
theorem dX8_poll_101 : decode cX8_poll 101 = .ok (.aload_n 0, 1) := by decide +kernel
theorem dX8_poll_102 : decode cX8_poll 102 = .ok (.iconst 0, 1) := by decide +kernel
theorem dX8_poll_103 : decode cX8_poll 103 = .ok (.putfield 74, 3) := by decide +kernel
theorem dX8_poll_106 : decode cX8_poll 106 = .ok (.aload_n 0, 1) := by decide +kernel
theorem dX8_poll_107 : decode cX8_poll 107 = .ok (.getfield 97, 3) := by decide +kernel
theorem dX8_poll_110 : decode cX8_poll 110 = .ok (.iconst 1, 1) := by decide +kernel
theorem dX8_poll_111 : decode cX8_poll 111 = .ok (.isub, 1) := by decide +kernel
theorem dX8_poll_112 : decode cX8_poll 112 = .ok (.ireturn, 1) := by decide +kernel
set_option maxRecDepth 20000 in
theorem ggX8_draw_X8_isLayer : GoodIn wsX8_draw wsX8_isLayer := goodIn_r _ [15] (by decide +kernel) (by decide +kernel)
set_option maxRecDepth 20000 in
theorem gX8_draw_X8_isLayer : GoodIn wsX8_draw (va_wsS RX8 107 yX8_isLayer wsX8_isLayer) := goodIn_app (goodIn_of _ (by decide +kernel)) ggX8_draw_X8_isLayer
set_option maxRecDepth 20000 in
theorem ggX8_draw_X8_is : GoodIn wsX8_draw wsX8_is := goodIn_r _ [19, 20, 21, 22, 23, 24, 25, 26, 27, 28, 29, 30, 31, 32, 33, 34, 35, 36, 37, 38, 39, 40, 41, 42, 43, 44, 45, 46, 47, 48, 49, 50, 51, 52] (by decide +kernel) (by decide +kernel)
set_option maxRecDepth 20000 in
theorem gX8_draw_X8_is : GoodIn wsX8_draw (wsV RX8 84 RX8 yX8_is wsX8_is) := goodIn_app (goodIn_of _ (by decide +kernel)) ggX8_draw_X8_is
theorem dX8_draw_0 : decode cX8_draw 0 = .ok (.iload_n 1, 1) := by decide +kernel
theorem dX8_draw_1 : decode cX8_draw 1 = .ok (.invokestatic 107, 3) := by decide +kernel
theorem dX8_draw_4 : decode cX8_draw 4 = .ok (.ifCond .eq 12, 3) := by decide +kernel
theorem dX8_draw_7 : decode cX8_draw 7 = .ok (.iload_n 3, 1) := by decide +kernel
theorem dX8_draw_8 : decode cX8_draw 8 = .ok (.ifCond .lt 8, 3) := by decide +kernel
theorem dX8_draw_11 : decode cX8_draw 11 = .ok (.iload_n 2, 1) := by decide +kernel
theorem dX8_draw_12 : decode cX8_draw 12 = .ok (.iconst 1, 1) := by decide +kernel
theorem dX8_draw_13 : decode cX8_draw 13 = .ok (.if_icmp .ge 9, 3) := by decide +kernel
theorem dX8_draw_16 : decode cX8_draw 16 = .ok (.aload_n 0, 1) := by decide +kernel
theorem dX8_draw_17 : decode cX8_draw 17 = .ok (.iconst 1, 1) := by decide +kernel
theorem dX8_draw_18 : decode cX8_draw 18 = .ok (.invokevirtual 84, 3) := by decide +kernel
theorem dX8_draw_21 : decode cX8_draw 21 = .ok (.ireturn, 1) := by decide +kernel
theorem dX8_draw_22 : decode cX8_draw 22 = .ok (.iconst 0, 1) := by decide +kernel
theorem dX8_draw_23 : decode cX8_draw 23 = .ok (.istore 4, 2) := by decide +kernel
theorem dX8_draw_25 : decode cX8_draw 25 = .ok (.iconst 0, 1) := by decide +kernel
theorem dX8_draw_26 : decode cX8_draw 26 = .ok (.istore 5, 2) := by decide +kernel
theorem dX8_draw_28 : decode cX8_draw 28 = .ok (.iload 5, 2) := by decide +kernel
theorem dX8_draw_30 : decode cX8_draw 30 = .ok (.aload_n 0, 1) := by decide +kernel
theorem dX8_draw_31 : decode cX8_draw 31 = .ok (.getfield 97, 3) := by decide +kernel
theorem dX8_draw_34 : decode cX8_draw 34 = .ok (.if_icmp .ge 30, 3) := by decide +kernel
theorem dX8_draw_37 : decode cX8_draw 37 = .ok (.iload 4, 2) := by decide +kernel
theorem dX8_draw_39 : decode cX8_draw 39 = .ok (.aload_n 0, 1) := by decide +kernel
theorem dX8_draw_40 : decode cX8_draw 40 = .ok (.getfield 28, 3) := by decide +kernel
theorem dX8_draw_43 : decode cX8_draw 43 = .ok (.iload 5, 2) := by decide +kernel
theorem dX8_draw_45 : decode cX8_draw 45 = .ok (.iaload, 1) := by decide +kernel
theorem dX8_draw_46 : decode cX8_draw 46 = .ok (.iload_n 1, 1) := by decide +kernel
theorem dX8_draw_47 : decode cX8_draw 47 = .ok (.if_icmp .ne 7, 3) := by decide +kernel
theorem dX8_draw_50 : decode cX8_draw 50 = .ok (.iconst 1, 1) := by decide +kernel
theorem dX8_draw_51 : decode cX8_draw 51 = .ok (.goto 4, 3) := by decide +kernel
theorem dX8_draw_54 : decode cX8_draw 54 = .ok (.iconst 0, 1) := by decide +kernel
theorem dX8_draw_55 : decode cX8_draw 55 = .ok (.iadd, 1) := by decide +kernel
theorem dX8_draw_56 : decode cX8_draw 56 = .ok (.istore 4, 2) := by decide +kernel
theorem dX8_draw_58 : decode cX8_draw 58 = .ok (.iinc 5 1, 3) := by decide +kernel
theorem dX8_draw_61 : decode cX8_draw 61 = .ok (.goto (-33), 3) := by decide +kernel
theorem dX8_draw_64 : decode cX8_draw 64 = .ok (.iload_n 2, 1) := by decide +kernel
theorem dX8_draw_65 : decode cX8_draw 65 = .ok (.iload 4, 2) := by decide +kernel
theorem dX8_draw_67 : decode cX8_draw 67 = .ok (.if_icmp .le 9, 3) := by decide +kernel
theorem dX8_draw_70 : decode cX8_draw 70 = .ok (.aload_n 0, 1) := by decide +kernel
theorem dX8_draw_71 : decode cX8_draw 71 = .ok (.iconst 1, 1) := by decide +kernel
theorem dX8_draw_72 : decode cX8_draw 72 = .ok (.invokevirtual 84, 3) := by decide +kernel
theorem dX8_draw_75 : decode cX8_draw 75 = .ok (.ireturn, 1) := by decide +kernel
theorem dX8_draw_76 : decode cX8_draw 76 = .ok (.aload_n 0, 1) := by decide +kernel
theorem dX8_draw_77 : decode cX8_draw 77 = .ok (.getfield 47, 3) := by decide +kernel
theorem dX8_draw_80 : decode cX8_draw 80 = .ok (.iload_n 1, 1) := by decide +kernel
theorem dX8_draw_81 : decode cX8_draw 81 = .ok (.iconst 1, 1) := by decide +kernel
theorem dX8_draw_82 : decode cX8_draw 82 = .ok (.bastore, 1) := by decide +kernel
theorem dX8_draw_83 : decode cX8_draw 83 = .ok (.aload_n 0, 1) := by decide +kernel
theorem dX8_draw_84 : decode cX8_draw 84 = .ok (.getfield 37, 3) := by decide +kernel
theorem dX8_draw_87 : decode cX8_draw 87 = .ok (.iload_n 1, 1) := by decide +kernel
theorem dX8_draw_88 : decode cX8_draw 88 = .ok (.iload 4, 2) := by decide +kernel
theorem dX8_draw_90 : decode cX8_draw 90 = .ok (.iastore, 1) := by decide +kernel
theorem dX8_draw_91 : decode cX8_draw 91 = .ok (.aload_n 0, 1) := by decide +kernel
theorem dX8_draw_92 : decode cX8_draw 92 = .ok (.getfield 34, 3) := by decide +kernel
theorem dX8_draw_95 : decode cX8_draw 95 = .ok (.iload_n 1, 1) := by decide +kernel
theorem dX8_draw_96 : decode cX8_draw 96 = .ok (.iload_n 2, 1) := by decide +kernel
theorem dX8_draw_97 : decode cX8_draw 97 = .ok (.iastore, 1) := by decide +kernel
theorem dX8_draw_98 : decode cX8_draw 98 = .ok (.iload_n 3, 1) := by decide +kernel
theorem dX8_draw_99 : decode cX8_draw 99 = .ok (.i2l, 1) := by decide +kernel
theorem dX8_draw_100 : decode cX8_draw 100 = .ok (.lstore 5, 2) := by decide +kernel
theorem dX8_draw_102 : decode cX8_draw 102 = .ok (.iload 4, 2) := by decide +kernel
theorem dX8_draw_104 : decode cX8_draw 104 = .ok (.istore 7, 2) := by decide +kernel
theorem dX8_draw_106 : decode cX8_draw 106 = .ok (.iload_n 2, 1) := by decide +kernel
theorem dX8_draw_107 : decode cX8_draw 107 = .ok (.istore 8, 2) := by decide +kernel
theorem dX8_draw_109 : decode cX8_draw 109 = .ok (.iconst 0, 1) := by decide +kernel
theorem dX8_draw_110 : decode cX8_draw 110 = .ok (.istore 9, 2) := by decide +kernel
theorem dX8_draw_112 : decode cX8_draw 112 = .ok (.iload 9, 2) := by decide +kernel
theorem dX8_draw_114 : decode cX8_draw 114 = .ok (.aload_n 0, 1) := by decide +kernel
theorem dX8_draw_115 : decode cX8_draw 115 = .ok (.getfield 97, 3) := by decide +kernel
theorem dX8_draw_118 : decode cX8_draw 118 = .ok (.if_icmp .ge 99, 3) := by decide +kernel
theorem dX8_draw_121 : decode cX8_draw 121 = .ok (.aload_n 0, 1) := by decide +kernel
theorem dX8_draw_122 : decode cX8_draw 122 = .ok (.getfield 28, 3) := by decide +kernel
theorem dX8_draw_125 : decode cX8_draw 125 = .ok (.iload 9, 2) := by decide +kernel
theorem dX8_draw_127 : decode cX8_draw 127 = .ok (.iaload, 1) := by decide +kernel
theorem dX8_draw_128 : decode cX8_draw 128 = .ok (.iload_n 1, 1) := by decide +kernel
theorem dX8_draw_129 : decode cX8_draw 129 = .ok (.if_icmp .eq 6, 3) := by decide +kernel
theorem dX8_draw_132 : decode cX8_draw 132 = .ok (.goto 79, 3) := by decide +kernel
theorem dX8_draw_135 : decode cX8_draw 135 = .ok (.ldc2_w 114, 3) := by decide +kernel
theorem dX8_draw_138 : decode cX8_draw 138 = .ok (.lload 5, 2) := by decide +kernel
theorem dX8_draw_140 : decode cX8_draw 140 = .ok (.lmul, 1) := by decide +kernel
theorem dX8_draw_141 : decode cX8_draw 141 = .ok (.ldc2_w 116, 3) := by decide +kernel
theorem dX8_draw_144 : decode cX8_draw 144 = .ok (.ladd, 1) := by decide +kernel
theorem dX8_draw_145 : decode cX8_draw 145 = .ok (.ldc2_w 118, 3) := by decide +kernel
theorem dX8_draw_148 : decode cX8_draw 148 = .ok (.land, 1) := by decide +kernel
theorem dX8_draw_149 : decode cX8_draw 149 = .ok (.lstore 5, 2) := by decide +kernel
theorem dX8_draw_151 : decode cX8_draw 151 = .ok (.aload_n 0, 1) := by decide +kernel
theorem dX8_draw_152 : decode cX8_draw 152 = .ok (.getfield 40, 3) := by decide +kernel
theorem dX8_draw_155 : decode cX8_draw 155 = .ok (.iload 9, 2) := by decide +kernel
theorem dX8_draw_157 : decode cX8_draw 157 = .ok (.lload 5, 2) := by decide +kernel
theorem dX8_draw_159 : decode cX8_draw 159 = .ok (.ldc2_w 120, 3) := by decide +kernel
theorem dX8_draw_162 : decode cX8_draw 162 = .ok (.ldiv, 1) := by decide +kernel
theorem dX8_draw_163 : decode cX8_draw 163 = .ok (.iload 7, 2) := by decide +kernel
theorem dX8_draw_165 : decode cX8_draw 165 = .ok (.i2l, 1) := by decide +kernel
theorem dX8_draw_166 : decode cX8_draw 166 = .ok (.lrem, 1) := by decide +kernel
theorem dX8_draw_167 : decode cX8_draw 167 = .ok (.iload 8, 2) := by decide +kernel
theorem dX8_draw_169 : decode cX8_draw 169 = .ok (.i2l, 1) := by decide +kernel
theorem dX8_draw_170 : decode cX8_draw 170 = .ok (.lcmp, 1) := by decide +kernel
theorem dX8_draw_171 : decode cX8_draw 171 = .ok (.ifCond .ge 7, 3) := by decide +kernel
theorem dX8_draw_174 : decode cX8_draw 174 = .ok (.iconst 1, 1) := by decide +kernel
theorem dX8_draw_175 : decode cX8_draw 175 = .ok (.goto 4, 3) := by decide +kernel
theorem dX8_draw_178 : decode cX8_draw 178 = .ok (.iconst 0, 1) := by decide +kernel
theorem dX8_draw_179 : decode cX8_draw 179 = .ok (.bastore, 1) := by decide +kernel
theorem dX8_draw_180 : decode cX8_draw 180 = .ok (.aload_n 0, 1) := by decide +kernel
theorem dX8_draw_181 : decode cX8_draw 181 = .ok (.getfield 44, 3) := by decide +kernel
theorem dX8_draw_184 : decode cX8_draw 184 = .ok (.iload 9, 2) := by decide +kernel
theorem dX8_draw_186 : decode cX8_draw 186 = .ok (.iconst 1, 1) := by decide +kernel
theorem dX8_draw_187 : decode cX8_draw 187 = .ok (.bastore, 1) := by decide +kernel
theorem dX8_draw_188 : decode cX8_draw 188 = .ok (.iload 8, 2) := by decide +kernel
theorem dX8_draw_190 : decode cX8_draw 190 = .ok (.aload_n 0, 1) := by decide +kernel
theorem dX8_draw_191 : decode cX8_draw 191 = .ok (.getfield 40, 3) := by decide +kernel
theorem dX8_draw_194 : decode cX8_draw 194 = .ok (.iload 9, 2) := by decide +kernel
theorem dX8_draw_196 : decode cX8_draw 196 = .ok (.baload, 1) := by decide +kernel
theorem dX8_draw_197 : decode cX8_draw 197 = .ok (.ifCond .eq 7, 3) := by decide +kernel
theorem dX8_draw_200 : decode cX8_draw 200 = .ok (.iconst 1, 1) := by decide +kernel
theorem dX8_draw_201 : decode cX8_draw 201 = .ok (.goto 4, 3) := by decide +kernel
theorem dX8_draw_204 : decode cX8_draw 204 = .ok (.iconst 0, 1) := by decide +kernel
theorem dX8_draw_205 : decode cX8_draw 205 = .ok (.isub, 1) := by decide +kernel
theorem dX8_draw_206 : decode cX8_draw 206 = .ok (.istore 8, 2) := by decide +kernel
theorem dX8_draw_208 : decode cX8_draw 208 = .ok (.iinc 7 (-1), 3) := by decide +kernel
theorem dX8_draw_211 : decode cX8_draw 211 = .ok (.iinc 9 1, 3) := by decide +kernel
theorem dX8_draw_214 : decode cX8_draw 214 = .ok (.goto (-102), 3) := by decide +kernel
theorem dX8_draw_217 : decode cX8_draw 217 = .ok (.aload_n 0, 1) := by decide +kernel
theorem dX8_draw_218 : decode cX8_draw 218 = .ok (.iconst 0, 1) := by decide +kernel
theorem dX8_draw_219 : decode cX8_draw 219 = .ok (.invokevirtual 84, 3) := by decide +kernel
theorem dX8_draw_222 : decode cX8_draw 222 = .ok (.ireturn, 1) := by decide +kernel
set_option maxRecDepth 20000 in
theorem ggX8_told_X8_isPoll : GoodIn wsX8_told wsX8_isPoll := goodIn_r _ [9, 10, 15, 16, 17, 18, 19, 20, 21, 22, 23, 24, 25, 26, 27, 28, 29, 30, 31, 32, 33, 34, 35, 36, 37, 38, 39, 40, 41, 42, 43, 44, 45, 46] (by decide +kernel) (by decide +kernel)
set_option maxRecDepth 20000 in
theorem gX8_told_X8_isPoll : GoodIn wsX8_told (wsV RX8 122 RX8 yX8_isPoll wsX8_isPoll) := goodIn_app (goodIn_of _ (by decide +kernel)) ggX8_told_X8_isPoll
set_option maxRecDepth 20000 in
theorem ggX8_told_X8_refuse : GoodIn wsX8_told wsX8_refuse := goodIn_r _ [14, 1, 15, 16, 17, 18, 19, 20, 21, 22, 23, 24, 25, 26, 27, 28, 29, 30, 31, 32, 33, 34, 35, 36, 37, 38, 39, 40, 41, 42, 43, 44, 45, 46] (by decide +kernel) (by decide +kernel)
set_option maxRecDepth 20000 in
theorem gX8_told_X8_refuse : GoodIn wsX8_told (wsV RX8 110 RX8 yX8_refuse wsX8_refuse) := goodIn_app (goodIn_of _ (by decide +kernel)) ggX8_told_X8_refuse
theorem dX8_told_0 : decode cX8_told 0 = .ok (.aload_n 0, 1) := by decide +kernel
theorem dX8_told_1 : decode cX8_told 1 = .ok (.iload_n 1, 1) := by decide +kernel
theorem dX8_told_2 : decode cX8_told 2 = .ok (.invokevirtual 122, 3) := by decide +kernel
theorem dX8_told_5 : decode cX8_told 5 = .ok (.ifCond .eq 12, 3) := by decide +kernel
theorem dX8_told_8 : decode cX8_told 8 = .ok (.iload_n 2, 1) := by decide +kernel
theorem dX8_told_9 : decode cX8_told 9 = .ok (.ifCond .lt 8, 3) := by decide +kernel
theorem dX8_told_12 : decode cX8_told 12 = .ok (.iload_n 2, 1) := by decide +kernel
theorem dX8_told_13 : decode cX8_told 13 = .ok (.iconst 2, 1) := by decide +kernel
theorem dX8_told_14 : decode cX8_told 14 = .ok (.if_icmp .le 9, 3) := by decide +kernel
theorem dX8_told_17 : decode cX8_told 17 = .ok (.aload_n 0, 1) := by decide +kernel
theorem dX8_told_18 : decode cX8_told 18 = .ok (.iconst 1, 1) := by decide +kernel
theorem dX8_told_19 : decode cX8_told 19 = .ok (.invokevirtual 110, 3) := by decide +kernel
theorem dX8_told_22 : decode cX8_told 22 = .ok (.ireturn, 1) := by decide +kernel
theorem dX8_told_23 : decode cX8_told 23 = .ok (.aload_n 0, 1) := by decide +kernel
theorem dX8_told_24 : decode cX8_told 24 = .ok (.iconst 0, 1) := by decide +kernel
theorem dX8_told_25 : decode cX8_told 25 = .ok (.putfield 74, 3) := by decide +kernel
theorem dX8_told_28 : decode cX8_told 28 = .ok (.iload_n 2, 1) := by decide +kernel
theorem dX8_told_29 : decode cX8_told 29 = .ok (.ifCond .ne 12, 3) := by decide +kernel
theorem dX8_told_32 : decode cX8_told 32 = .ok (.aload_n 0, 1) := by decide +kernel
theorem dX8_told_33 : decode cX8_told 33 = .ok (.getfield 28, 3) := by decide +kernel
theorem dX8_told_36 : decode cX8_told 36 = .ok (.iload_n 1, 1) := by decide +kernel
theorem dX8_told_37 : decode cX8_told 37 = .ok (.iaload, 1) := by decide +kernel
theorem dX8_told_38 : decode cX8_told 38 = .ok (.goto 31, 3) := by decide +kernel
theorem dX8_told_41 : decode cX8_told 41 = .ok (.iload_n 2, 1) := by decide +kernel
theorem dX8_told_42 : decode cX8_told 42 = .ok (.iconst 1, 1) := by decide +kernel
theorem dX8_told_43 : decode cX8_told 43 = .ok (.if_icmp .ne 12, 3) := by decide +kernel
theorem dX8_told_46 : decode cX8_told 46 = .ok (.aload_n 0, 1) := by decide +kernel
theorem dX8_told_47 : decode cX8_told 47 = .ok (.getfield 31, 3) := by decide +kernel
theorem dX8_told_50 : decode cX8_told 50 = .ok (.iload_n 1, 1) := by decide +kernel
theorem dX8_told_51 : decode cX8_told 51 = .ok (.iaload, 1) := by decide +kernel
theorem dX8_told_52 : decode cX8_told 52 = .ok (.goto 17, 3) := by decide +kernel
theorem dX8_told_55 : decode cX8_told 55 = .ok (.aload_n 0, 1) := by decide +kernel
theorem dX8_told_56 : decode cX8_told 56 = .ok (.getfield 40, 3) := by decide +kernel
theorem dX8_told_59 : decode cX8_told 59 = .ok (.iload_n 1, 1) := by decide +kernel
theorem dX8_told_60 : decode cX8_told 60 = .ok (.baload, 1) := by decide +kernel
theorem dX8_told_61 : decode cX8_told 61 = .ok (.ifCond .eq 7, 3) := by decide +kernel
theorem dX8_told_64 : decode cX8_told 64 = .ok (.iconst 1, 1) := by decide +kernel
theorem dX8_told_65 : decode cX8_told 65 = .ok (.goto 4, 3) := by decide +kernel
theorem dX8_told_68 : decode cX8_told 68 = .ok (.iconst 0, 1) := by decide +kernel
theorem dX8_told_69 : decode cX8_told 69 = .ok (.ireturn, 1) := by decide +kernel
theorem dX8_fraction_0 : decode cX8_fraction 0 = .ok (.lload_n 1, 1) := by decide +kernel
theorem dX8_fraction_1 : decode cX8_fraction 1 = .ok (.lconst 0, 1) := by decide +kernel
theorem dX8_fraction_2 : decode cX8_fraction 2 = .ok (.lcmp, 1) := by decide +kernel
theorem dX8_fraction_3 : decode cX8_fraction 3 = .ok (.ifCond .ge 8, 3) := by decide +kernel
theorem dX8_fraction_6 : decode cX8_fraction 6 = .ok (.lload_n 1, 1) := by decide +kernel
theorem dX8_fraction_7 : decode cX8_fraction 7 = .ok (.lneg, 1) := by decide +kernel
theorem dX8_fraction_8 : decode cX8_fraction 8 = .ok (.goto 4, 3) := by decide +kernel
theorem dX8_fraction_11 : decode cX8_fraction 11 = .ok (.lload_n 1, 1) := by decide +kernel
theorem dX8_fraction_12 : decode cX8_fraction 12 = .ok (.lstore 5, 2) := by decide +kernel
theorem dX8_fraction_14 : decode cX8_fraction 14 = .ok (.lload_n 3, 1) := by decide +kernel
theorem dX8_fraction_15 : decode cX8_fraction 15 = .ok (.lstore 7, 2) := by decide +kernel
theorem dX8_fraction_17 : decode cX8_fraction 17 = .ok (.lload 7, 2) := by decide +kernel
theorem dX8_fraction_19 : decode cX8_fraction 19 = .ok (.lconst 0, 1) := by decide +kernel
theorem dX8_fraction_20 : decode cX8_fraction 20 = .ok (.lcmp, 1) := by decide +kernel
theorem dX8_fraction_21 : decode cX8_fraction 21 = .ok (.ifCond .eq 21, 3) := by decide +kernel
theorem dX8_fraction_24 : decode cX8_fraction 24 = .ok (.lload 5, 2) := by decide +kernel
theorem dX8_fraction_26 : decode cX8_fraction 26 = .ok (.lload 7, 2) := by decide +kernel
theorem dX8_fraction_28 : decode cX8_fraction 28 = .ok (.lrem, 1) := by decide +kernel
theorem dX8_fraction_29 : decode cX8_fraction 29 = .ok (.lstore 9, 2) := by decide +kernel
theorem dX8_fraction_31 : decode cX8_fraction 31 = .ok (.lload 7, 2) := by decide +kernel
theorem dX8_fraction_33 : decode cX8_fraction 33 = .ok (.lstore 5, 2) := by decide +kernel
theorem dX8_fraction_35 : decode cX8_fraction 35 = .ok (.lload 9, 2) := by decide +kernel
theorem dX8_fraction_37 : decode cX8_fraction 37 = .ok (.lstore 7, 2) := by decide +kernel
theorem dX8_fraction_39 : decode cX8_fraction 39 = .ok (.goto (-22), 3) := by decide +kernel
theorem dX8_fraction_42 : decode cX8_fraction 42 = .ok (.aload_n 0, 1) := by decide +kernel
theorem dX8_fraction_43 : decode cX8_fraction 43 = .ok (.lload_n 1, 1) := by decide +kernel
theorem dX8_fraction_44 : decode cX8_fraction 44 = .ok (.lload 5, 2) := by decide +kernel
theorem dX8_fraction_46 : decode cX8_fraction 46 = .ok (.ldiv, 1) := by decide +kernel
theorem dX8_fraction_47 : decode cX8_fraction 47 = .ok (.putfield 77, 3) := by decide +kernel
theorem dX8_fraction_50 : decode cX8_fraction 50 = .ok (.aload_n 0, 1) := by decide +kernel
theorem dX8_fraction_51 : decode cX8_fraction 51 = .ok (.lload_n 3, 1) := by decide +kernel
theorem dX8_fraction_52 : decode cX8_fraction 52 = .ok (.lload 5, 2) := by decide +kernel
theorem dX8_fraction_54 : decode cX8_fraction 54 = .ok (.ldiv, 1) := by decide +kernel
theorem dX8_fraction_55 : decode cX8_fraction 55 = .ok (.putfield 7, 3) := by decide +kernel
theorem dX8_fraction_58 : decode cX8_fraction 58 = .ok (.aload_n 0, 1) := by decide +kernel
theorem dX8_fraction_59 : decode cX8_fraction 59 = .ok (.iconst 0, 1) := by decide +kernel
theorem dX8_fraction_60 : decode cX8_fraction 60 = .ok (.putfield 74, 3) := by decide +kernel
theorem dX8_fraction_63 : decode cX8_fraction 63 = .ok (.lload_n 1, 1) := by decide +kernel
theorem dX8_fraction_64 : decode cX8_fraction 64 = .ok (.lconst 0, 1) := by decide +kernel
theorem dX8_fraction_65 : decode cX8_fraction 65 = .ok (.lcmp, 1) := by decide +kernel
theorem dX8_fraction_66 : decode cX8_fraction 66 = .ok (.ifCond .le 7, 3) := by decide +kernel
theorem dX8_fraction_69 : decode cX8_fraction 69 = .ok (.iconst 1, 1) := by decide +kernel
theorem dX8_fraction_70 : decode cX8_fraction 70 = .ok (.goto 14, 3) := by decide +kernel
theorem dX8_fraction_73 : decode cX8_fraction 73 = .ok (.lload_n 1, 1) := by decide +kernel
theorem dX8_fraction_74 : decode cX8_fraction 74 = .ok (.lconst 0, 1) := by decide +kernel
theorem dX8_fraction_75 : decode cX8_fraction 75 = .ok (.lcmp, 1) := by decide +kernel
theorem dX8_fraction_76 : decode cX8_fraction 76 = .ok (.ifCond .ge 7, 3) := by decide +kernel
theorem dX8_fraction_79 : decode cX8_fraction 79 = .ok (.iconst (-1), 1) := by decide +kernel
theorem dX8_fraction_80 : decode cX8_fraction 80 = .ok (.goto 4, 3) := by decide +kernel
theorem dX8_fraction_83 : decode cX8_fraction 83 = .ok (.iconst 0, 1) := by decide +kernel
theorem dX8_fraction_84 : decode cX8_fraction 84 = .ok (.ireturn, 1) := by decide +kernel
set_option maxRecDepth 20000 in
theorem ggX8_chance_X8_isPoll : GoodIn wsX8_chance wsX8_isPoll := goodIn_r _ [9, 10, 22, 23, 24, 25, 26, 27, 28, 29, 30, 31, 32, 33, 34, 35, 36, 37, 38, 39, 40, 41, 42, 43, 44, 45, 46, 47, 48, 49, 50, 51, 52, 53] (by decide +kernel) (by decide +kernel)
set_option maxRecDepth 20000 in
theorem gX8_chance_X8_isPoll : GoodIn wsX8_chance (wsV RX8 122 RX8 yX8_isPoll wsX8_isPoll) := goodIn_app (goodIn_of _ (by decide +kernel)) ggX8_chance_X8_isPoll
set_option maxRecDepth 20000 in
theorem ggX8_chance_X8_refuse : GoodIn wsX8_chance wsX8_refuse := goodIn_r _ [14, 15, 22, 23, 24, 25, 26, 27, 28, 29, 30, 31, 32, 33, 34, 35, 36, 37, 38, 39, 40, 41, 42, 43, 44, 45, 46, 47, 48, 49, 50, 51, 52, 53] (by decide +kernel) (by decide +kernel)
set_option maxRecDepth 20000 in
theorem gX8_chance_X8_refuse : GoodIn wsX8_chance (wsV RX8 110 RX8 yX8_refuse wsX8_refuse) := goodIn_app (goodIn_of _ (by decide +kernel)) ggX8_chance_X8_refuse
set_option maxRecDepth 20000 in
theorem ggX8_chance_X8_fraction : GoodIn wsX8_chance wsX8_fraction := goodIn_r _ [19, 20, 21, 15, 22, 23, 24, 25, 26, 27, 28, 29, 30, 31, 32, 33, 34, 35, 36, 37, 38, 39, 40, 41, 42, 43, 44, 45, 46, 47, 48, 49, 50, 51, 52, 53] (by decide +kernel) (by decide +kernel)
set_option maxRecDepth 20000 in
theorem gX8_chance_X8_fraction : GoodIn wsX8_chance (wsV RX8 125 RX8 yX8_fraction wsX8_fraction) := goodIn_app (goodIn_of _ (by decide +kernel)) ggX8_chance_X8_fraction
theorem dX8_chance_0 : decode cX8_chance 0 = .ok (.aload_n 0, 1) := by decide +kernel
theorem dX8_chance_1 : decode cX8_chance 1 = .ok (.iload_n 1, 1) := by decide +kernel
theorem dX8_chance_2 : decode cX8_chance 2 = .ok (.invokevirtual 122, 3) := by decide +kernel
theorem dX8_chance_5 : decode cX8_chance 5 = .ok (.ifCond .ne 9, 3) := by decide +kernel
theorem dX8_chance_8 : decode cX8_chance 8 = .ok (.aload_n 0, 1) := by decide +kernel
theorem dX8_chance_9 : decode cX8_chance 9 = .ok (.iconst 1, 1) := by decide +kernel
theorem dX8_chance_10 : decode cX8_chance 10 = .ok (.invokevirtual 110, 3) := by decide +kernel
theorem dX8_chance_13 : decode cX8_chance 13 = .ok (.ireturn, 1) := by decide +kernel
theorem dX8_chance_14 : decode cX8_chance 14 = .ok (.aload_n 0, 1) := by decide +kernel
theorem dX8_chance_15 : decode cX8_chance 15 = .ok (.getfield 28, 3) := by decide +kernel
theorem dX8_chance_18 : decode cX8_chance 18 = .ok (.iload_n 1, 1) := by decide +kernel
theorem dX8_chance_19 : decode cX8_chance 19 = .ok (.iaload, 1) := by decide +kernel
theorem dX8_chance_20 : decode cX8_chance 20 = .ok (.istore_n 2, 1) := by decide +kernel
theorem dX8_chance_21 : decode cX8_chance 21 = .ok (.aload_n 0, 1) := by decide +kernel
theorem dX8_chance_22 : decode cX8_chance 22 = .ok (.getfield 44, 3) := by decide +kernel
theorem dX8_chance_25 : decode cX8_chance 25 = .ok (.iload_n 1, 1) := by decide +kernel
theorem dX8_chance_26 : decode cX8_chance 26 = .ok (.baload, 1) := by decide +kernel
theorem dX8_chance_27 : decode cX8_chance 27 = .ok (.ifCond .eq 24, 3) := by decide +kernel
theorem dX8_chance_30 : decode cX8_chance 30 = .ok (.aload_n 0, 1) := by decide +kernel
theorem dX8_chance_31 : decode cX8_chance 31 = .ok (.aload_n 0, 1) := by decide +kernel
theorem dX8_chance_32 : decode cX8_chance 32 = .ok (.getfield 34, 3) := by decide +kernel
theorem dX8_chance_35 : decode cX8_chance 35 = .ok (.iload_n 2, 1) := by decide +kernel
theorem dX8_chance_36 : decode cX8_chance 36 = .ok (.iaload, 1) := by decide +kernel
theorem dX8_chance_37 : decode cX8_chance 37 = .ok (.i2l, 1) := by decide +kernel
theorem dX8_chance_38 : decode cX8_chance 38 = .ok (.aload_n 0, 1) := by decide +kernel
theorem dX8_chance_39 : decode cX8_chance 39 = .ok (.getfield 37, 3) := by decide +kernel
theorem dX8_chance_42 : decode cX8_chance 42 = .ok (.iload_n 2, 1) := by decide +kernel
theorem dX8_chance_43 : decode cX8_chance 43 = .ok (.iaload, 1) := by decide +kernel
theorem dX8_chance_44 : decode cX8_chance 44 = .ok (.i2l, 1) := by decide +kernel
theorem dX8_chance_45 : decode cX8_chance 45 = .ok (.invokevirtual 125, 3) := by decide +kernel
theorem dX8_chance_48 : decode cX8_chance 48 = .ok (.goto 9, 3) := by decide +kernel
theorem dX8_chance_51 : decode cX8_chance 51 = .ok (.aload_n 0, 1) := by decide +kernel
theorem dX8_chance_52 : decode cX8_chance 52 = .ok (.lconst 0, 1) := by decide +kernel
theorem dX8_chance_53 : decode cX8_chance 53 = .ok (.lconst 1, 1) := by decide +kernel
theorem dX8_chance_54 : decode cX8_chance 54 = .ok (.invokevirtual 125, 3) := by decide +kernel
theorem dX8_chance_57 : decode cX8_chance 57 = .ok (.ireturn, 1) := by decide +kernel
theorem dX8_isGood_0 : decode cX8_isGood 0 = .ok (.iconst 0, 1) := by decide +kernel
theorem dX8_isGood_1 : decode cX8_isGood 1 = .ok (.istore_n 2, 1) := by decide +kernel
theorem dX8_isGood_2 : decode cX8_isGood 2 = .ok (.iconst 0, 1) := by decide +kernel
theorem dX8_isGood_3 : decode cX8_isGood 3 = .ok (.istore_n 3, 1) := by decide +kernel
theorem dX8_isGood_4 : decode cX8_isGood 4 = .ok (.iload_n 3, 1) := by decide +kernel
theorem dX8_isGood_5 : decode cX8_isGood 5 = .ok (.aload_n 0, 1) := by decide +kernel
theorem dX8_isGood_6 : decode cX8_isGood 6 = .ok (.getfield 24, 3) := by decide +kernel
theorem dX8_isGood_9 : decode cX8_isGood 9 = .ok (.if_icmp .gt 23, 3) := by decide +kernel
theorem dX8_isGood_12 : decode cX8_isGood 12 = .ok (.iload_n 2, 1) := by decide +kernel
theorem dX8_isGood_13 : decode cX8_isGood 13 = .ok (.aload_n 0, 1) := by decide +kernel
theorem dX8_isGood_14 : decode cX8_isGood 14 = .ok (.getfield 59, 3) := by decide +kernel
theorem dX8_isGood_17 : decode cX8_isGood 17 = .ok (.bipush 6, 2) := by decide +kernel
theorem dX8_isGood_19 : decode cX8_isGood 19 = .ok (.iload_n 1, 1) := by decide +kernel
theorem dX8_isGood_20 : decode cX8_isGood 20 = .ok (.imul, 1) := by decide +kernel
theorem dX8_isGood_21 : decode cX8_isGood 21 = .ok (.iload_n 3, 1) := by decide +kernel
theorem dX8_isGood_22 : decode cX8_isGood 22 = .ok (.iadd, 1) := by decide +kernel
theorem dX8_isGood_23 : decode cX8_isGood 23 = .ok (.iaload, 1) := by decide +kernel
theorem dX8_isGood_24 : decode cX8_isGood 24 = .ok (.iadd, 1) := by decide +kernel
theorem dX8_isGood_25 : decode cX8_isGood 25 = .ok (.istore_n 2, 1) := by decide +kernel
theorem dX8_isGood_26 : decode cX8_isGood 26 = .ok (.iinc 3 1, 3) := by decide +kernel
theorem dX8_isGood_29 : decode cX8_isGood 29 = .ok (.goto (-25), 3) := by decide +kernel
theorem dX8_isGood_32 : decode cX8_isGood 32 = .ok (.aload_n 0, 1) := by decide +kernel
theorem dX8_isGood_33 : decode cX8_isGood 33 = .ok (.getfield 59, 3) := by decide +kernel
theorem dX8_isGood_36 : decode cX8_isGood 36 = .ok (.bipush 6, 2) := by decide +kernel
theorem dX8_isGood_38 : decode cX8_isGood 38 = .ok (.iload_n 1, 1) := by decide +kernel
theorem dX8_isGood_39 : decode cX8_isGood 39 = .ok (.imul, 1) := by decide +kernel
theorem dX8_isGood_40 : decode cX8_isGood 40 = .ok (.aload_n 0, 1) := by decide +kernel
theorem dX8_isGood_41 : decode cX8_isGood 41 = .ok (.getfield 24, 3) := by decide +kernel
theorem dX8_isGood_44 : decode cX8_isGood 44 = .ok (.iadd, 1) := by decide +kernel
theorem dX8_isGood_45 : decode cX8_isGood 45 = .ok (.iconst 1, 1) := by decide +kernel
theorem dX8_isGood_46 : decode cX8_isGood 46 = .ok (.iadd, 1) := by decide +kernel
theorem dX8_isGood_47 : decode cX8_isGood 47 = .ok (.iaload, 1) := by decide +kernel
theorem dX8_isGood_48 : decode cX8_isGood 48 = .ok (.istore_n 3, 1) := by decide +kernel
theorem dX8_isGood_49 : decode cX8_isGood 49 = .ok (.iload_n 2, 1) := by decide +kernel
theorem dX8_isGood_50 : decode cX8_isGood 50 = .ok (.iload_n 3, 1) := by decide +kernel
theorem dX8_isGood_51 : decode cX8_isGood 51 = .ok (.if_icmp .ne 22, 3) := by decide +kernel
theorem dX8_isGood_54 : decode cX8_isGood 54 = .ok (.iload_n 3, 1) := by decide +kernel
theorem dX8_isGood_55 : decode cX8_isGood 55 = .ok (.aload_n 0, 1) := by decide +kernel
theorem dX8_isGood_56 : decode cX8_isGood 56 = .ok (.getfield 31, 3) := by decide +kernel
theorem dX8_isGood_59 : decode cX8_isGood 59 = .ok (.aload_n 0, 1) := by decide +kernel
theorem dX8_isGood_60 : decode cX8_isGood 60 = .ok (.getfield 53, 3) := by decide +kernel
theorem dX8_isGood_63 : decode cX8_isGood 63 = .ok (.iload_n 1, 1) := by decide +kernel
theorem dX8_isGood_64 : decode cX8_isGood 64 = .ok (.iaload, 1) := by decide +kernel
theorem dX8_isGood_65 : decode cX8_isGood 65 = .ok (.iaload, 1) := by decide +kernel
theorem dX8_isGood_66 : decode cX8_isGood 66 = .ok (.if_icmp .gt 7, 3) := by decide +kernel
theorem dX8_isGood_69 : decode cX8_isGood 69 = .ok (.iconst 1, 1) := by decide +kernel
theorem dX8_isGood_70 : decode cX8_isGood 70 = .ok (.goto 4, 3) := by decide +kernel
theorem dX8_isGood_73 : decode cX8_isGood 73 = .ok (.iconst 0, 1) := by decide +kernel
theorem dX8_isGood_74 : decode cX8_isGood 74 = .ok (.ireturn, 1) := by decide +kernel
set_option maxRecDepth 20000 in
theorem ggX8_sheet_X8_isTray : GoodIn wsX8_sheet wsX8_isTray := goodIn_r _ [14] (by decide +kernel) (by decide +kernel)
set_option maxRecDepth 20000 in
theorem gX8_sheet_X8_isTray : GoodIn wsX8_sheet (va_wsS RX8 80 yX8_isTray wsX8_isTray) := goodIn_app (goodIn_of _ (by decide +kernel)) ggX8_sheet_X8_isTray
set_option maxRecDepth 20000 in
theorem ggX8_sheet_X8_isPoll : GoodIn wsX8_sheet wsX8_isPoll := goodIn_r _ [18, 19, 27, 28, 29, 30, 31, 32, 33, 34, 35, 36, 37, 38, 39, 40, 41, 42, 43, 44, 45, 46, 47, 48, 49, 50, 51, 52, 53, 54, 55, 56, 57, 58] (by decide +kernel) (by decide +kernel)
set_option maxRecDepth 20000 in
theorem gX8_sheet_X8_isPoll : GoodIn wsX8_sheet (wsV RX8 122 RX8 yX8_isPoll wsX8_isPoll) := goodIn_app (goodIn_of _ (by decide +kernel)) ggX8_sheet_X8_isPoll
set_option maxRecDepth 20000 in
theorem ggX8_sheet_X8_isMinute : GoodIn wsX8_sheet wsX8_isMinute := goodIn_r _ [22] (by decide +kernel) (by decide +kernel)
set_option maxRecDepth 20000 in
theorem gX8_sheet_X8_isMinute : GoodIn wsX8_sheet (va_wsS RX8 129 yX8_isMinute wsX8_isMinute) := goodIn_app (goodIn_of _ (by decide +kernel)) ggX8_sheet_X8_isMinute
set_option maxRecDepth 20000 in
theorem ggX8_sheet_X8_refuse : GoodIn wsX8_sheet wsX8_refuse := goodIn_r _ [26, 10, 27, 28, 29, 30, 31, 32, 33, 34, 35, 36, 37, 38, 39, 40, 41, 42, 43, 44, 45, 46, 47, 48, 49, 50, 51, 52, 53, 54, 55, 56, 57, 58] (by decide +kernel) (by decide +kernel)
set_option maxRecDepth 20000 in
theorem gX8_sheet_X8_refuse : GoodIn wsX8_sheet (wsV RX8 110 RX8 yX8_refuse wsX8_refuse) := goodIn_app (goodIn_of _ (by decide +kernel)) ggX8_sheet_X8_refuse
theorem dX8_sheet_0 : decode cX8_sheet 0 = .ok (.iload_n 2, 1) := by decide +kernel
theorem dX8_sheet_1 : decode cX8_sheet 1 = .ok (.invokestatic 80, 3) := by decide +kernel
theorem dX8_sheet_4 : decode cX8_sheet 4 = .ok (.ifCond .eq 18, 3) := by decide +kernel
theorem dX8_sheet_7 : decode cX8_sheet 7 = .ok (.aload_n 0, 1) := by decide +kernel
theorem dX8_sheet_8 : decode cX8_sheet 8 = .ok (.iload_n 1, 1) := by decide +kernel
theorem dX8_sheet_9 : decode cX8_sheet 9 = .ok (.invokevirtual 122, 3) := by decide +kernel
theorem dX8_sheet_12 : decode cX8_sheet 12 = .ok (.ifCond .eq 10, 3) := by decide +kernel
theorem dX8_sheet_15 : decode cX8_sheet 15 = .ok (.iload_n 3, 1) := by decide +kernel
theorem dX8_sheet_16 : decode cX8_sheet 16 = .ok (.invokestatic 129, 3) := by decide +kernel
theorem dX8_sheet_19 : decode cX8_sheet 19 = .ok (.ifCond .ne 9, 3) := by decide +kernel
theorem dX8_sheet_22 : decode cX8_sheet 22 = .ok (.aload_n 0, 1) := by decide +kernel
theorem dX8_sheet_23 : decode cX8_sheet 23 = .ok (.iconst 1, 1) := by decide +kernel
theorem dX8_sheet_24 : decode cX8_sheet 24 = .ok (.invokevirtual 110, 3) := by decide +kernel
theorem dX8_sheet_27 : decode cX8_sheet 27 = .ok (.ireturn, 1) := by decide +kernel
theorem dX8_sheet_28 : decode cX8_sheet 28 = .ok (.iload_n 3, 1) := by decide +kernel
theorem dX8_sheet_29 : decode cX8_sheet 29 = .ok (.aload_n 0, 1) := by decide +kernel
theorem dX8_sheet_30 : decode cX8_sheet 30 = .ok (.getfield 132, 3) := by decide +kernel
theorem dX8_sheet_33 : decode cX8_sheet 33 = .ok (.if_icmp .ge 9, 3) := by decide +kernel
theorem dX8_sheet_36 : decode cX8_sheet 36 = .ok (.aload_n 0, 1) := by decide +kernel
theorem dX8_sheet_37 : decode cX8_sheet 37 = .ok (.iconst 2, 1) := by decide +kernel
theorem dX8_sheet_38 : decode cX8_sheet 38 = .ok (.invokevirtual 110, 3) := by decide +kernel
theorem dX8_sheet_41 : decode cX8_sheet 41 = .ok (.ireturn, 1) := by decide +kernel
theorem dX8_sheet_42 : decode cX8_sheet 42 = .ok (.aload_n 0, 1) := by decide +kernel
theorem dX8_sheet_43 : decode cX8_sheet 43 = .ok (.getfield 17, 3) := by decide +kernel
theorem dX8_sheet_46 : decode cX8_sheet 46 = .ok (.iload_n 2, 1) := by decide +kernel
theorem dX8_sheet_47 : decode cX8_sheet 47 = .ok (.iaload, 1) := by decide +kernel
theorem dX8_sheet_48 : decode cX8_sheet 48 = .ok (.iconst (-1), 1) := by decide +kernel
theorem dX8_sheet_49 : decode cX8_sheet 49 = .ok (.if_icmp .ne 9, 3) := by decide +kernel
theorem dX8_sheet_52 : decode cX8_sheet 52 = .ok (.aload_n 0, 1) := by decide +kernel
theorem dX8_sheet_53 : decode cX8_sheet 53 = .ok (.iconst 3, 1) := by decide +kernel
theorem dX8_sheet_54 : decode cX8_sheet 54 = .ok (.invokevirtual 110, 3) := by decide +kernel
theorem dX8_sheet_57 : decode cX8_sheet 57 = .ok (.ireturn, 1) := by decide +kernel
theorem dX8_sheet_58 : decode cX8_sheet 58 = .ok (.aload_n 0, 1) := by decide +kernel
theorem dX8_sheet_59 : decode cX8_sheet 59 = .ok (.getfield 17, 3) := by decide +kernel
theorem dX8_sheet_62 : decode cX8_sheet 62 = .ok (.iload_n 2, 1) := by decide +kernel
theorem dX8_sheet_63 : decode cX8_sheet 63 = .ok (.iaload, 1) := by decide +kernel
theorem dX8_sheet_64 : decode cX8_sheet 64 = .ok (.aload_n 0, 1) := by decide +kernel
theorem dX8_sheet_65 : decode cX8_sheet 65 = .ok (.getfield 24, 3) := by decide +kernel
theorem dX8_sheet_68 : decode cX8_sheet 68 = .ok (.iconst 2, 1) := by decide +kernel
theorem dX8_sheet_69 : decode cX8_sheet 69 = .ok (.iadd, 1) := by decide +kernel
theorem dX8_sheet_70 : decode cX8_sheet 70 = .ok (.if_icmp .ge 9, 3) := by decide +kernel
theorem dX8_sheet_73 : decode cX8_sheet 73 = .ok (.aload_n 0, 1) := by decide +kernel
theorem dX8_sheet_74 : decode cX8_sheet 74 = .ok (.iconst 4, 1) := by decide +kernel
theorem dX8_sheet_75 : decode cX8_sheet 75 = .ok (.invokevirtual 110, 3) := by decide +kernel
theorem dX8_sheet_78 : decode cX8_sheet 78 = .ok (.ireturn, 1) := by decide +kernel
theorem dX8_sheet_79 : decode cX8_sheet 79 = .ok (.iconst 0, 1) := by decide +kernel
theorem dX8_sheet_80 : decode cX8_sheet 80 = .ok (.istore 4, 2) := by decide +kernel
theorem dX8_sheet_82 : decode cX8_sheet 82 = .ok (.iload 4, 2) := by decide +kernel
theorem dX8_sheet_84 : decode cX8_sheet 84 = .ok (.aload_n 0, 1) := by decide +kernel
theorem dX8_sheet_85 : decode cX8_sheet 85 = .ok (.getfield 24, 3) := by decide +kernel
theorem dX8_sheet_88 : decode cX8_sheet 88 = .ok (.iconst 2, 1) := by decide +kernel
theorem dX8_sheet_89 : decode cX8_sheet 89 = .ok (.iadd, 1) := by decide +kernel
theorem dX8_sheet_90 : decode cX8_sheet 90 = .ok (.if_icmp .ge 51, 3) := by decide +kernel
theorem dX8_sheet_93 : decode cX8_sheet 93 = .ok (.aload_n 0, 1) := by decide +kernel
theorem dX8_sheet_94 : decode cX8_sheet 94 = .ok (.getfield 20, 3) := by decide +kernel
theorem dX8_sheet_97 : decode cX8_sheet 97 = .ok (.bipush 20, 2) := by decide +kernel
theorem dX8_sheet_99 : decode cX8_sheet 99 = .ok (.iload_n 2, 1) := by decide +kernel
theorem dX8_sheet_100 : decode cX8_sheet 100 = .ok (.imul, 1) := by decide +kernel
theorem dX8_sheet_101 : decode cX8_sheet 101 = .ok (.iload 4, 2) := by decide +kernel
theorem dX8_sheet_103 : decode cX8_sheet 103 = .ok (.iadd, 1) := by decide +kernel
theorem dX8_sheet_104 : decode cX8_sheet 104 = .ok (.laload, 1) := by decide +kernel
theorem dX8_sheet_105 : decode cX8_sheet 105 = .ok (.lconst 0, 1) := by decide +kernel
theorem dX8_sheet_106 : decode cX8_sheet 106 = .ok (.lcmp, 1) := by decide +kernel
theorem dX8_sheet_107 : decode cX8_sheet 107 = .ok (.ifCond .lt 22, 3) := by decide +kernel
theorem dX8_sheet_110 : decode cX8_sheet 110 = .ok (.aload_n 0, 1) := by decide +kernel
theorem dX8_sheet_111 : decode cX8_sheet 111 = .ok (.getfield 20, 3) := by decide +kernel
theorem dX8_sheet_114 : decode cX8_sheet 114 = .ok (.bipush 20, 2) := by decide +kernel
theorem dX8_sheet_116 : decode cX8_sheet 116 = .ok (.iload_n 2, 1) := by decide +kernel
theorem dX8_sheet_117 : decode cX8_sheet 117 = .ok (.imul, 1) := by decide +kernel
theorem dX8_sheet_118 : decode cX8_sheet 118 = .ok (.iload 4, 2) := by decide +kernel
theorem dX8_sheet_120 : decode cX8_sheet 120 = .ok (.iadd, 1) := by decide +kernel
theorem dX8_sheet_121 : decode cX8_sheet 121 = .ok (.laload, 1) := by decide +kernel
theorem dX8_sheet_122 : decode cX8_sheet 122 = .ok (.ldc2_w 135, 3) := by decide +kernel
theorem dX8_sheet_125 : decode cX8_sheet 125 = .ok (.lcmp, 1) := by decide +kernel
theorem dX8_sheet_126 : decode cX8_sheet 126 = .ok (.ifCond .le 9, 3) := by decide +kernel
theorem dX8_sheet_129 : decode cX8_sheet 129 = .ok (.aload_n 0, 1) := by decide +kernel
theorem dX8_sheet_130 : decode cX8_sheet 130 = .ok (.iconst 1, 1) := by decide +kernel
theorem dX8_sheet_131 : decode cX8_sheet 131 = .ok (.invokevirtual 110, 3) := by decide +kernel
theorem dX8_sheet_134 : decode cX8_sheet 134 = .ok (.ireturn, 1) := by decide +kernel
theorem dX8_sheet_135 : decode cX8_sheet 135 = .ok (.iinc 4 1, 3) := by decide +kernel
theorem dX8_sheet_138 : decode cX8_sheet 138 = .ok (.goto (-56), 3) := by decide +kernel
theorem dX8_sheet_141 : decode cX8_sheet 141 = .ok (.aload_n 0, 1) := by decide +kernel
theorem dX8_sheet_142 : decode cX8_sheet 142 = .ok (.getfield 100, 3) := by decide +kernel
theorem dX8_sheet_145 : decode cX8_sheet 145 = .ok (.bipush 120, 2) := by decide +kernel
theorem dX8_sheet_147 : decode cX8_sheet 147 = .ok (.if_icmp .ne 10, 3) := by decide +kernel
theorem dX8_sheet_150 : decode cX8_sheet 150 = .ok (.aload_n 0, 1) := by decide +kernel
theorem dX8_sheet_151 : decode cX8_sheet 151 = .ok (.bipush 7, 2) := by decide +kernel
theorem dX8_sheet_153 : decode cX8_sheet 153 = .ok (.invokevirtual 110, 3) := by decide +kernel
theorem dX8_sheet_156 : decode cX8_sheet 156 = .ok (.ireturn, 1) := by decide +kernel
theorem dX8_sheet_157 : decode cX8_sheet 157 = .ok (.aload_n 0, 1) := by decide +kernel
theorem dX8_sheet_158 : decode cX8_sheet 158 = .ok (.iload_n 3, 1) := by decide +kernel
theorem dX8_sheet_159 : decode cX8_sheet 159 = .ok (.putfield 132, 3) := by decide +kernel
theorem dX8_sheet_162 : decode cX8_sheet 162 = .ok (.aload_n 0, 1) := by decide +kernel
theorem dX8_sheet_163 : decode cX8_sheet 163 = .ok (.getfield 53, 3) := by decide +kernel
theorem dX8_sheet_166 : decode cX8_sheet 166 = .ok (.aload_n 0, 1) := by decide +kernel
theorem dX8_sheet_167 : decode cX8_sheet 167 = .ok (.getfield 100, 3) := by decide +kernel
theorem dX8_sheet_170 : decode cX8_sheet 170 = .ok (.iload_n 1, 1) := by decide +kernel
theorem dX8_sheet_171 : decode cX8_sheet 171 = .ok (.iastore, 1) := by decide +kernel
theorem dX8_sheet_172 : decode cX8_sheet 172 = .ok (.aload_n 0, 1) := by decide +kernel
theorem dX8_sheet_173 : decode cX8_sheet 173 = .ok (.getfield 56, 3) := by decide +kernel
theorem dX8_sheet_176 : decode cX8_sheet 176 = .ok (.aload_n 0, 1) := by decide +kernel
theorem dX8_sheet_177 : decode cX8_sheet 177 = .ok (.getfield 100, 3) := by decide +kernel
theorem dX8_sheet_180 : decode cX8_sheet 180 = .ok (.iload_n 3, 1) := by decide +kernel
theorem dX8_sheet_181 : decode cX8_sheet 181 = .ok (.iastore, 1) := by decide +kernel
theorem dX8_sheet_182 : decode cX8_sheet 182 = .ok (.iconst 0, 1) := by decide +kernel
theorem dX8_sheet_183 : decode cX8_sheet 183 = .ok (.istore 4, 2) := by decide +kernel
theorem dX8_sheet_185 : decode cX8_sheet 185 = .ok (.iload 4, 2) := by decide +kernel
theorem dX8_sheet_187 : decode cX8_sheet 187 = .ok (.aload_n 0, 1) := by decide +kernel
theorem dX8_sheet_188 : decode cX8_sheet 188 = .ok (.getfield 24, 3) := by decide +kernel
theorem dX8_sheet_191 : decode cX8_sheet 191 = .ok (.iconst 2, 1) := by decide +kernel
theorem dX8_sheet_192 : decode cX8_sheet 192 = .ok (.iadd, 1) := by decide +kernel
theorem dX8_sheet_193 : decode cX8_sheet 193 = .ok (.if_icmp .ge 37, 3) := by decide +kernel
theorem dX8_sheet_196 : decode cX8_sheet 196 = .ok (.aload_n 0, 1) := by decide +kernel
theorem dX8_sheet_197 : decode cX8_sheet 197 = .ok (.getfield 59, 3) := by decide +kernel
theorem dX8_sheet_200 : decode cX8_sheet 200 = .ok (.bipush 6, 2) := by decide +kernel
theorem dX8_sheet_202 : decode cX8_sheet 202 = .ok (.aload_n 0, 1) := by decide +kernel
theorem dX8_sheet_203 : decode cX8_sheet 203 = .ok (.getfield 100, 3) := by decide +kernel
theorem dX8_sheet_206 : decode cX8_sheet 206 = .ok (.imul, 1) := by decide +kernel
theorem dX8_sheet_207 : decode cX8_sheet 207 = .ok (.iload 4, 2) := by decide +kernel
theorem dX8_sheet_209 : decode cX8_sheet 209 = .ok (.iadd, 1) := by decide +kernel
theorem dX8_sheet_210 : decode cX8_sheet 210 = .ok (.aload_n 0, 1) := by decide +kernel
theorem dX8_sheet_211 : decode cX8_sheet 211 = .ok (.getfield 20, 3) := by decide +kernel
theorem dX8_sheet_214 : decode cX8_sheet 214 = .ok (.bipush 20, 2) := by decide +kernel
theorem dX8_sheet_216 : decode cX8_sheet 216 = .ok (.iload_n 2, 1) := by decide +kernel
theorem dX8_sheet_217 : decode cX8_sheet 217 = .ok (.imul, 1) := by decide +kernel
theorem dX8_sheet_218 : decode cX8_sheet 218 = .ok (.iload 4, 2) := by decide +kernel
theorem dX8_sheet_220 : decode cX8_sheet 220 = .ok (.iadd, 1) := by decide +kernel
theorem dX8_sheet_221 : decode cX8_sheet 221 = .ok (.laload, 1) := by decide +kernel
theorem dX8_sheet_222 : decode cX8_sheet 222 = .ok (.l2i, 1) := by decide +kernel
theorem dX8_sheet_223 : decode cX8_sheet 223 = .ok (.iastore, 1) := by decide +kernel
theorem dX8_sheet_224 : decode cX8_sheet 224 = .ok (.iinc 4 1, 3) := by decide +kernel
theorem dX8_sheet_227 : decode cX8_sheet 227 = .ok (.goto (-42), 3) := by decide +kernel
theorem dX8_sheet_230 : decode cX8_sheet 230 = .ok (.aload_n 0, 1) := by decide +kernel
theorem dX8_sheet_231 : decode cX8_sheet 231 = .ok (.dup, 1) := by decide +kernel
theorem dX8_sheet_232 : decode cX8_sheet 232 = .ok (.getfield 100, 3) := by decide +kernel
theorem dX8_sheet_235 : decode cX8_sheet 235 = .ok (.iconst 1, 1) := by decide +kernel
theorem dX8_sheet_236 : decode cX8_sheet 236 = .ok (.iadd, 1) := by decide +kernel
theorem dX8_sheet_237 : decode cX8_sheet 237 = .ok (.putfield 100, 3) := by decide +kernel
theorem dX8_sheet_240 : decode cX8_sheet 240 = .ok (.aload_n 0, 1) := by decide +kernel
theorem dX8_sheet_241 : decode cX8_sheet 241 = .ok (.iconst 0, 1) := by decide +kernel
theorem dX8_sheet_242 : decode cX8_sheet 242 = .ok (.putfield 74, 3) := by decide +kernel
theorem dX8_sheet_245 : decode cX8_sheet 245 = .ok (.aload_n 0, 1) := by decide +kernel
theorem dX8_sheet_246 : decode cX8_sheet 246 = .ok (.getfield 100, 3) := by decide +kernel
theorem dX8_sheet_249 : decode cX8_sheet 249 = .ok (.iconst 1, 1) := by decide +kernel
theorem dX8_sheet_250 : decode cX8_sheet 250 = .ok (.isub, 1) := by decide +kernel
theorem dX8_sheet_251 : decode cX8_sheet 251 = .ok (.ireturn, 1) := by decide +kernel
set_option maxRecDepth 20000 in
theorem ggX8_good_X8_isSheet : GoodIn wsX8_good wsX8_isSheet := goodIn_r _ [6, 7, 20, 21, 22, 23, 24, 25, 26, 27, 28, 29, 30, 31, 32, 33, 34, 35, 36, 37, 38, 39, 40, 41, 42, 43, 44, 45, 46, 47, 48, 49, 50, 51] (by decide +kernel) (by decide +kernel)
set_option maxRecDepth 20000 in
theorem gX8_good_X8_isSheet : GoodIn wsX8_good (wsV RX8 137 RX8 yX8_isSheet wsX8_isSheet) := goodIn_app (goodIn_of _ (by decide +kernel)) ggX8_good_X8_isSheet
set_option maxRecDepth 20000 in
theorem ggX8_good_X8_refuse : GoodIn wsX8_good wsX8_refuse := goodIn_r _ [11, 1, 20, 21, 22, 23, 24, 25, 26, 27, 28, 29, 30, 31, 32, 33, 34, 35, 36, 37, 38, 39, 40, 41, 42, 43, 44, 45, 46, 47, 48, 49, 50, 51] (by decide +kernel) (by decide +kernel)
set_option maxRecDepth 20000 in
theorem gX8_good_X8_refuse : GoodIn wsX8_good (wsV RX8 110 RX8 yX8_refuse wsX8_refuse) := goodIn_app (goodIn_of _ (by decide +kernel)) ggX8_good_X8_refuse
set_option maxRecDepth 20000 in
theorem ggX8_good_X8_isGood : GoodIn wsX8_good wsX8_isGood := goodIn_r _ [15, 16, 17, 18, 19, 20, 21, 22, 23, 24, 25, 26, 27, 28, 29, 30, 31, 32, 33, 34, 35, 36, 37, 38, 39, 40, 41, 42, 43, 44, 45, 46, 47, 48, 49, 50, 51] (by decide +kernel) (by decide +kernel)
set_option maxRecDepth 20000 in
theorem gX8_good_X8_isGood : GoodIn wsX8_good (wsV RX8 140 RX8 yX8_isGood wsX8_isGood) := goodIn_app (goodIn_of _ (by decide +kernel)) ggX8_good_X8_isGood
theorem dX8_good_0 : decode cX8_good 0 = .ok (.aload_n 0, 1) := by decide +kernel
theorem dX8_good_1 : decode cX8_good 1 = .ok (.iload_n 1, 1) := by decide +kernel
theorem dX8_good_2 : decode cX8_good 2 = .ok (.invokevirtual 137, 3) := by decide +kernel
theorem dX8_good_5 : decode cX8_good 5 = .ok (.ifCond .ne 9, 3) := by decide +kernel
theorem dX8_good_8 : decode cX8_good 8 = .ok (.aload_n 0, 1) := by decide +kernel
theorem dX8_good_9 : decode cX8_good 9 = .ok (.iconst 1, 1) := by decide +kernel
theorem dX8_good_10 : decode cX8_good 10 = .ok (.invokevirtual 110, 3) := by decide +kernel
theorem dX8_good_13 : decode cX8_good 13 = .ok (.ireturn, 1) := by decide +kernel
theorem dX8_good_14 : decode cX8_good 14 = .ok (.aload_n 0, 1) := by decide +kernel
theorem dX8_good_15 : decode cX8_good 15 = .ok (.iconst 0, 1) := by decide +kernel
theorem dX8_good_16 : decode cX8_good 16 = .ok (.putfield 74, 3) := by decide +kernel
theorem dX8_good_19 : decode cX8_good 19 = .ok (.aload_n 0, 1) := by decide +kernel
theorem dX8_good_20 : decode cX8_good 20 = .ok (.iload_n 1, 1) := by decide +kernel
theorem dX8_good_21 : decode cX8_good 21 = .ok (.invokevirtual 140, 3) := by decide +kernel
theorem dX8_good_24 : decode cX8_good 24 = .ok (.ifCond .eq 7, 3) := by decide +kernel
theorem dX8_good_27 : decode cX8_good 27 = .ok (.iconst 1, 1) := by decide +kernel
theorem dX8_good_28 : decode cX8_good 28 = .ok (.goto 4, 3) := by decide +kernel
theorem dX8_good_31 : decode cX8_good 31 = .ok (.iconst 0, 1) := by decide +kernel
theorem dX8_good_32 : decode cX8_good 32 = .ok (.ireturn, 1) := by decide +kernel
set_option maxRecDepth 20000 in
theorem ggX8_habit_X8_is : GoodIn wsX8_habit wsX8_is := goodIn_r _ [6, 7, 8, 9, 10, 11, 12, 13, 14, 15, 16, 17, 18, 19, 20, 21, 22, 23, 24, 25, 26, 27, 28, 29, 30, 31, 32, 33, 34, 35, 36, 37, 38, 39] (by decide +kernel) (by decide +kernel)
set_option maxRecDepth 20000 in
theorem gX8_habit_X8_is : GoodIn wsX8_habit (wsV RX8 84 RX8 yX8_is wsX8_is) := goodIn_app (goodIn_of _ (by decide +kernel)) ggX8_habit_X8_is
theorem dX8_habit_0 : decode cX8_habit 0 = .ok (.iload_n 1, 1) := by decide +kernel
theorem dX8_habit_1 : decode cX8_habit 1 = .ok (.ifCond .lt 24, 3) := by decide +kernel
theorem dX8_habit_4 : decode cX8_habit 4 = .ok (.iload_n 1, 1) := by decide +kernel
theorem dX8_habit_5 : decode cX8_habit 5 = .ok (.bipush 9, 2) := by decide +kernel
theorem dX8_habit_7 : decode cX8_habit 7 = .ok (.if_icmp .gt 18, 3) := by decide +kernel
theorem dX8_habit_10 : decode cX8_habit 10 = .ok (.iload_n 2, 1) := by decide +kernel
theorem dX8_habit_11 : decode cX8_habit 11 = .ok (.ifCond .lt 14, 3) := by decide +kernel
theorem dX8_habit_14 : decode cX8_habit 14 = .ok (.iload_n 2, 1) := by decide +kernel
theorem dX8_habit_15 : decode cX8_habit 15 = .ok (.bipush 9, 2) := by decide +kernel
theorem dX8_habit_17 : decode cX8_habit 17 = .ok (.if_icmp .gt 8, 3) := by decide +kernel
theorem dX8_habit_20 : decode cX8_habit 20 = .ok (.iload_n 1, 1) := by decide +kernel
theorem dX8_habit_21 : decode cX8_habit 21 = .ok (.iload_n 2, 1) := by decide +kernel
theorem dX8_habit_22 : decode cX8_habit 22 = .ok (.if_icmp .ne 9, 3) := by decide +kernel
theorem dX8_habit_25 : decode cX8_habit 25 = .ok (.aload_n 0, 1) := by decide +kernel
theorem dX8_habit_26 : decode cX8_habit 26 = .ok (.iconst 1, 1) := by decide +kernel
theorem dX8_habit_27 : decode cX8_habit 27 = .ok (.invokevirtual 84, 3) := by decide +kernel
theorem dX8_habit_30 : decode cX8_habit 30 = .ok (.ireturn, 1) := by decide +kernel
theorem dX8_habit_31 : decode cX8_habit 31 = .ok (.aload_n 0, 1) := by decide +kernel
theorem dX8_habit_32 : decode cX8_habit 32 = .ok (.getfield 62, 3) := by decide +kernel
theorem dX8_habit_35 : decode cX8_habit 35 = .ok (.bipush 10, 2) := by decide +kernel
theorem dX8_habit_37 : decode cX8_habit 37 = .ok (.iload_n 1, 1) := by decide +kernel
theorem dX8_habit_38 : decode cX8_habit 38 = .ok (.imul, 1) := by decide +kernel
theorem dX8_habit_39 : decode cX8_habit 39 = .ok (.iload_n 2, 1) := by decide +kernel
theorem dX8_habit_40 : decode cX8_habit 40 = .ok (.iadd, 1) := by decide +kernel
theorem dX8_habit_41 : decode cX8_habit 41 = .ok (.iload_n 3, 1) := by decide +kernel
theorem dX8_habit_42 : decode cX8_habit 42 = .ok (.bastore, 1) := by decide +kernel
theorem dX8_habit_43 : decode cX8_habit 43 = .ok (.aload_n 0, 1) := by decide +kernel
theorem dX8_habit_44 : decode cX8_habit 44 = .ok (.getfield 62, 3) := by decide +kernel
theorem dX8_habit_47 : decode cX8_habit 47 = .ok (.bipush 10, 2) := by decide +kernel
theorem dX8_habit_49 : decode cX8_habit 49 = .ok (.iload_n 2, 1) := by decide +kernel
theorem dX8_habit_50 : decode cX8_habit 50 = .ok (.imul, 1) := by decide +kernel
theorem dX8_habit_51 : decode cX8_habit 51 = .ok (.iload_n 1, 1) := by decide +kernel
theorem dX8_habit_52 : decode cX8_habit 52 = .ok (.iadd, 1) := by decide +kernel
theorem dX8_habit_53 : decode cX8_habit 53 = .ok (.iload_n 3, 1) := by decide +kernel
theorem dX8_habit_54 : decode cX8_habit 54 = .ok (.bastore, 1) := by decide +kernel
theorem dX8_habit_55 : decode cX8_habit 55 = .ok (.aload_n 0, 1) := by decide +kernel
theorem dX8_habit_56 : decode cX8_habit 56 = .ok (.iconst 0, 1) := by decide +kernel
theorem dX8_habit_57 : decode cX8_habit 57 = .ok (.invokevirtual 84, 3) := by decide +kernel
theorem dX8_habit_60 : decode cX8_habit 60 = .ok (.ireturn, 1) := by decide +kernel
set_option maxRecDepth 20000 in
theorem ggX8_mends_X8_isGood : GoodIn wsX8_mends wsX8_isGood := goodIn_r _ [7, 8, 1, 9, 10, 11, 12, 13, 14, 15, 16, 17, 18, 19, 20, 21, 22, 23, 24, 25, 26, 27, 28, 29, 30, 31, 32, 33, 34, 35, 36, 37, 38, 39, 40, 41, 42] (by decide +kernel) (by decide +kernel)
set_option maxRecDepth 20000 in
theorem gX8_mends_X8_isGood : GoodIn wsX8_mends (wsV RX8 140 RX8 yX8_isGood wsX8_isGood) := goodIn_app (goodIn_of _ (by decide +kernel)) ggX8_mends_X8_isGood
theorem dX8_mends_0 : decode cX8_mends 0 = .ok (.bipush 6, 2) := by decide +kernel
theorem dX8_mends_2 : decode cX8_mends 2 = .ok (.iload_n 1, 1) := by decide +kernel
theorem dX8_mends_3 : decode cX8_mends 3 = .ok (.imul, 1) := by decide +kernel
theorem dX8_mends_4 : decode cX8_mends 4 = .ok (.iload_n 2, 1) := by decide +kernel
theorem dX8_mends_5 : decode cX8_mends 5 = .ok (.iadd, 1) := by decide +kernel
theorem dX8_mends_6 : decode cX8_mends 6 = .ok (.istore 5, 2) := by decide +kernel
theorem dX8_mends_8 : decode cX8_mends 8 = .ok (.aload_n 0, 1) := by decide +kernel
theorem dX8_mends_9 : decode cX8_mends 9 = .ok (.getfield 59, 3) := by decide +kernel
theorem dX8_mends_12 : decode cX8_mends 12 = .ok (.iload 5, 2) := by decide +kernel
theorem dX8_mends_14 : decode cX8_mends 14 = .ok (.iaload, 1) := by decide +kernel
theorem dX8_mends_15 : decode cX8_mends 15 = .ok (.istore 6, 2) := by decide +kernel
theorem dX8_mends_17 : decode cX8_mends 17 = .ok (.iconst 1, 1) := by decide +kernel
theorem dX8_mends_18 : decode cX8_mends 18 = .ok (.istore 7, 2) := by decide +kernel
theorem dX8_mends_20 : decode cX8_mends 20 = .ok (.iconst 0, 1) := by decide +kernel
theorem dX8_mends_21 : decode cX8_mends 21 = .ok (.istore 8, 2) := by decide +kernel
theorem dX8_mends_23 : decode cX8_mends 23 = .ok (.iload 8, 2) := by decide +kernel
theorem dX8_mends_25 : decode cX8_mends 25 = .ok (.iload_n 3, 1) := by decide +kernel
theorem dX8_mends_26 : decode cX8_mends 26 = .ok (.if_icmp .ge 16, 3) := by decide +kernel
theorem dX8_mends_29 : decode cX8_mends 29 = .ok (.iload 7, 2) := by decide +kernel
theorem dX8_mends_31 : decode cX8_mends 31 = .ok (.bipush 10, 2) := by decide +kernel
theorem dX8_mends_33 : decode cX8_mends 33 = .ok (.imul, 1) := by decide +kernel
theorem dX8_mends_34 : decode cX8_mends 34 = .ok (.istore 7, 2) := by decide +kernel
theorem dX8_mends_36 : decode cX8_mends 36 = .ok (.iinc 8 1, 3) := by decide +kernel
theorem dX8_mends_39 : decode cX8_mends 39 = .ok (.goto (-16), 3) := by decide +kernel
theorem dX8_mends_42 : decode cX8_mends 42 = .ok (.iload_n 3, 1) := by decide +kernel
theorem dX8_mends_43 : decode cX8_mends 43 = .ok (.ifCond .le 12, 3) := by decide +kernel
theorem dX8_mends_46 : decode cX8_mends 46 = .ok (.iload 6, 2) := by decide +kernel
theorem dX8_mends_48 : decode cX8_mends 48 = .ok (.iload 7, 2) := by decide +kernel
theorem dX8_mends_50 : decode cX8_mends 50 = .ok (.if_icmp .ge 5, 3) := by decide +kernel
theorem dX8_mends_53 : decode cX8_mends 53 = .ok (.iconst 0, 1) := by decide +kernel
theorem dX8_mends_54 : decode cX8_mends 54 = .ok (.ireturn, 1) := by decide +kernel
theorem dX8_mends_55 : decode cX8_mends 55 = .ok (.iload 6, 2) := by decide +kernel
theorem dX8_mends_57 : decode cX8_mends 57 = .ok (.iload 7, 2) := by decide +kernel
theorem dX8_mends_59 : decode cX8_mends 59 = .ok (.idiv, 1) := by decide +kernel
theorem dX8_mends_60 : decode cX8_mends 60 = .ok (.bipush 10, 2) := by decide +kernel
theorem dX8_mends_62 : decode cX8_mends 62 = .ok (.irem, 1) := by decide +kernel
theorem dX8_mends_63 : decode cX8_mends 63 = .ok (.istore 8, 2) := by decide +kernel
theorem dX8_mends_65 : decode cX8_mends 65 = .ok (.aload_n 0, 1) := by decide +kernel
theorem dX8_mends_66 : decode cX8_mends 66 = .ok (.getfield 62, 3) := by decide +kernel
theorem dX8_mends_69 : decode cX8_mends 69 = .ok (.bipush 10, 2) := by decide +kernel
theorem dX8_mends_71 : decode cX8_mends 71 = .ok (.iload 8, 2) := by decide +kernel
theorem dX8_mends_73 : decode cX8_mends 73 = .ok (.imul, 1) := by decide +kernel
theorem dX8_mends_74 : decode cX8_mends 74 = .ok (.iload 4, 2) := by decide +kernel
theorem dX8_mends_76 : decode cX8_mends 76 = .ok (.iadd, 1) := by decide +kernel
theorem dX8_mends_77 : decode cX8_mends 77 = .ok (.baload, 1) := by decide +kernel
theorem dX8_mends_78 : decode cX8_mends 78 = .ok (.ifCond .ne 5, 3) := by decide +kernel
theorem dX8_mends_81 : decode cX8_mends 81 = .ok (.iconst 0, 1) := by decide +kernel
theorem dX8_mends_82 : decode cX8_mends 82 = .ok (.ireturn, 1) := by decide +kernel
theorem dX8_mends_83 : decode cX8_mends 83 = .ok (.aload_n 0, 1) := by decide +kernel
theorem dX8_mends_84 : decode cX8_mends 84 = .ok (.getfield 59, 3) := by decide +kernel
theorem dX8_mends_87 : decode cX8_mends 87 = .ok (.iload 5, 2) := by decide +kernel
theorem dX8_mends_89 : decode cX8_mends 89 = .ok (.iload 6, 2) := by decide +kernel
theorem dX8_mends_91 : decode cX8_mends 91 = .ok (.iload 4, 2) := by decide +kernel
theorem dX8_mends_93 : decode cX8_mends 93 = .ok (.iload 8, 2) := by decide +kernel
theorem dX8_mends_95 : decode cX8_mends 95 = .ok (.isub, 1) := by decide +kernel
theorem dX8_mends_96 : decode cX8_mends 96 = .ok (.iload 7, 2) := by decide +kernel
theorem dX8_mends_98 : decode cX8_mends 98 = .ok (.imul, 1) := by decide +kernel
theorem dX8_mends_99 : decode cX8_mends 99 = .ok (.iadd, 1) := by decide +kernel
theorem dX8_mends_100 : decode cX8_mends 100 = .ok (.iastore, 1) := by decide +kernel
theorem dX8_mends_101 : decode cX8_mends 101 = .ok (.aload_n 0, 1) := by decide +kernel
theorem dX8_mends_102 : decode cX8_mends 102 = .ok (.iload_n 1, 1) := by decide +kernel
theorem dX8_mends_103 : decode cX8_mends 103 = .ok (.invokevirtual 140, 3) := by decide +kernel
theorem dX8_mends_106 : decode cX8_mends 106 = .ok (.istore 9, 2) := by decide +kernel
theorem dX8_mends_108 : decode cX8_mends 108 = .ok (.aload_n 0, 1) := by decide +kernel
theorem dX8_mends_109 : decode cX8_mends 109 = .ok (.getfield 59, 3) := by decide +kernel
theorem dX8_mends_112 : decode cX8_mends 112 = .ok (.iload 5, 2) := by decide +kernel
theorem dX8_mends_114 : decode cX8_mends 114 = .ok (.iload 6, 2) := by decide +kernel
theorem dX8_mends_116 : decode cX8_mends 116 = .ok (.iastore, 1) := by decide +kernel
theorem dX8_mends_117 : decode cX8_mends 117 = .ok (.iload 9, 2) := by decide +kernel
theorem dX8_mends_119 : decode cX8_mends 119 = .ok (.ireturn, 1) := by decide +kernel
set_option maxRecDepth 20000 in
theorem ggX8_slip_X8_isSheet : GoodIn wsX8_slip wsX8_isSheet := goodIn_r _ [7, 8, 25, 26, 27, 28, 29, 30, 31, 32, 33, 34, 35, 36, 37, 38, 39, 40, 41, 42, 43, 44, 45, 46, 47, 48, 49, 50, 51, 52, 53, 54, 55, 56] (by decide +kernel) (by decide +kernel)
set_option maxRecDepth 20000 in
theorem gX8_slip_X8_isSheet : GoodIn wsX8_slip (wsV RX8 137 RX8 yX8_isSheet wsX8_isSheet) := goodIn_app (goodIn_of _ (by decide +kernel)) ggX8_slip_X8_isSheet
set_option maxRecDepth 20000 in
theorem ggX8_slip_X8_refuse : GoodIn wsX8_slip wsX8_refuse := goodIn_r _ [12, 2, 25, 26, 27, 28, 29, 30, 31, 32, 33, 34, 35, 36, 37, 38, 39, 40, 41, 42, 43, 44, 45, 46, 47, 48, 49, 50, 51, 52, 53, 54, 55, 56] (by decide +kernel) (by decide +kernel)
set_option maxRecDepth 20000 in
theorem gX8_slip_X8_refuse : GoodIn wsX8_slip (wsV RX8 110 RX8 yX8_refuse wsX8_refuse) := goodIn_app (goodIn_of _ (by decide +kernel)) ggX8_slip_X8_refuse
set_option maxRecDepth 20000 in
theorem ggX8_slip_X8_isGood : GoodIn wsX8_slip wsX8_isGood := goodIn_r _ [16, 1, 17, 18, 19, 25, 26, 27, 28, 29, 30, 31, 32, 33, 34, 35, 36, 37, 38, 39, 40, 41, 42, 43, 44, 45, 46, 47, 48, 49, 50, 51, 52, 53, 54, 55, 56] (by decide +kernel) (by decide +kernel)
set_option maxRecDepth 20000 in
theorem gX8_slip_X8_isGood : GoodIn wsX8_slip (wsV RX8 140 RX8 yX8_isGood wsX8_isGood) := goodIn_app (goodIn_of _ (by decide +kernel)) ggX8_slip_X8_isGood
set_option maxRecDepth 20000 in
theorem ggX8_slip_X8_mends : GoodIn wsX8_slip wsX8_mends := goodIn_r _ [23, 17, 24, 13, 14, 15, 6, 16, 1, 18, 19, 25, 26, 27, 28, 29, 30, 31, 32, 33, 34, 35, 36, 37, 38, 39, 40, 41, 42, 43, 44, 45, 46, 47, 48, 49, 50, 51, 52, 53, 54, 55, 56] (by decide +kernel) (by decide +kernel)
set_option maxRecDepth 20000 in
theorem gX8_slip_X8_mends : GoodIn wsX8_slip (wsV RX8 143 RX8 yX8_mends wsX8_mends) := goodIn_app (goodIn_of _ (by decide +kernel)) ggX8_slip_X8_mends
theorem dX8_slip_0 : decode cX8_slip 0 = .ok (.aload_n 0, 1) := by decide +kernel
theorem dX8_slip_1 : decode cX8_slip 1 = .ok (.iload_n 1, 1) := by decide +kernel
theorem dX8_slip_2 : decode cX8_slip 2 = .ok (.invokevirtual 137, 3) := by decide +kernel
theorem dX8_slip_5 : decode cX8_slip 5 = .ok (.ifCond .ne 9, 3) := by decide +kernel
theorem dX8_slip_8 : decode cX8_slip 8 = .ok (.aload_n 0, 1) := by decide +kernel
theorem dX8_slip_9 : decode cX8_slip 9 = .ok (.iconst 1, 1) := by decide +kernel
theorem dX8_slip_10 : decode cX8_slip 10 = .ok (.invokevirtual 110, 3) := by decide +kernel
theorem dX8_slip_13 : decode cX8_slip 13 = .ok (.ireturn, 1) := by decide +kernel
theorem dX8_slip_14 : decode cX8_slip 14 = .ok (.iload_n 2, 1) := by decide +kernel
theorem dX8_slip_15 : decode cX8_slip 15 = .ok (.ifCond .lt 11, 3) := by decide +kernel
theorem dX8_slip_18 : decode cX8_slip 18 = .ok (.aload_n 0, 1) := by decide +kernel
theorem dX8_slip_19 : decode cX8_slip 19 = .ok (.iload_n 1, 1) := by decide +kernel
theorem dX8_slip_20 : decode cX8_slip 20 = .ok (.invokevirtual 140, 3) := by decide +kernel
theorem dX8_slip_23 : decode cX8_slip 23 = .ok (.ifCond .eq 10, 3) := by decide +kernel
theorem dX8_slip_26 : decode cX8_slip 26 = .ok (.aload_n 0, 1) := by decide +kernel
theorem dX8_slip_27 : decode cX8_slip 27 = .ok (.bipush 6, 2) := by decide +kernel
theorem dX8_slip_29 : decode cX8_slip 29 = .ok (.invokevirtual 110, 3) := by decide +kernel
theorem dX8_slip_32 : decode cX8_slip 32 = .ok (.ireturn, 1) := by decide +kernel
theorem dX8_slip_33 : decode cX8_slip 33 = .ok (.iload_n 2, 1) := by decide +kernel
theorem dX8_slip_34 : decode cX8_slip 34 = .ok (.istore_n 3, 1) := by decide +kernel
theorem dX8_slip_35 : decode cX8_slip 35 = .ok (.iconst 0, 1) := by decide +kernel
theorem dX8_slip_36 : decode cX8_slip 36 = .ok (.istore 4, 2) := by decide +kernel
theorem dX8_slip_38 : decode cX8_slip 38 = .ok (.iload 4, 2) := by decide +kernel
theorem dX8_slip_40 : decode cX8_slip 40 = .ok (.bipush 100, 2) := by decide +kernel
theorem dX8_slip_42 : decode cX8_slip 42 = .ok (.aload_n 0, 1) := by decide +kernel
theorem dX8_slip_43 : decode cX8_slip 43 = .ok (.getfield 24, 3) := by decide +kernel
theorem dX8_slip_46 : decode cX8_slip 46 = .ok (.iconst 2, 1) := by decide +kernel
theorem dX8_slip_47 : decode cX8_slip 47 = .ok (.iadd, 1) := by decide +kernel
theorem dX8_slip_48 : decode cX8_slip 48 = .ok (.imul, 1) := by decide +kernel
theorem dX8_slip_49 : decode cX8_slip 49 = .ok (.if_icmp .ge 65, 3) := by decide +kernel
theorem dX8_slip_52 : decode cX8_slip 52 = .ok (.iload 4, 2) := by decide +kernel
theorem dX8_slip_54 : decode cX8_slip 54 = .ok (.bipush 10, 2) := by decide +kernel
theorem dX8_slip_56 : decode cX8_slip 56 = .ok (.idiv, 1) := by decide +kernel
theorem dX8_slip_57 : decode cX8_slip 57 = .ok (.bipush 10, 2) := by decide +kernel
theorem dX8_slip_59 : decode cX8_slip 59 = .ok (.irem, 1) := by decide +kernel
theorem dX8_slip_60 : decode cX8_slip 60 = .ok (.iconst 3, 1) := by decide +kernel
theorem dX8_slip_61 : decode cX8_slip 61 = .ok (.if_icmp .gt 47, 3) := by decide +kernel
theorem dX8_slip_64 : decode cX8_slip 64 = .ok (.aload_n 0, 1) := by decide +kernel
theorem dX8_slip_65 : decode cX8_slip 65 = .ok (.iload_n 1, 1) := by decide +kernel
theorem dX8_slip_66 : decode cX8_slip 66 = .ok (.iload 4, 2) := by decide +kernel
theorem dX8_slip_68 : decode cX8_slip 68 = .ok (.bipush 100, 2) := by decide +kernel
theorem dX8_slip_70 : decode cX8_slip 70 = .ok (.idiv, 1) := by decide +kernel
theorem dX8_slip_71 : decode cX8_slip 71 = .ok (.iload 4, 2) := by decide +kernel
theorem dX8_slip_73 : decode cX8_slip 73 = .ok (.bipush 10, 2) := by decide +kernel
theorem dX8_slip_75 : decode cX8_slip 75 = .ok (.idiv, 1) := by decide +kernel
theorem dX8_slip_76 : decode cX8_slip 76 = .ok (.bipush 10, 2) := by decide +kernel
theorem dX8_slip_78 : decode cX8_slip 78 = .ok (.irem, 1) := by decide +kernel
theorem dX8_slip_79 : decode cX8_slip 79 = .ok (.iload 4, 2) := by decide +kernel
theorem dX8_slip_81 : decode cX8_slip 81 = .ok (.bipush 10, 2) := by decide +kernel
theorem dX8_slip_83 : decode cX8_slip 83 = .ok (.irem, 1) := by decide +kernel
theorem dX8_slip_84 : decode cX8_slip 84 = .ok (.invokevirtual 143, 3) := by decide +kernel
theorem dX8_slip_87 : decode cX8_slip 87 = .ok (.ifCond .ne 6, 3) := by decide +kernel
theorem dX8_slip_90 : decode cX8_slip 90 = .ok (.goto 18, 3) := by decide +kernel
theorem dX8_slip_93 : decode cX8_slip 93 = .ok (.iload_n 3, 1) := by decide +kernel
theorem dX8_slip_94 : decode cX8_slip 94 = .ok (.ifCond .ne 11, 3) := by decide +kernel
theorem dX8_slip_97 : decode cX8_slip 97 = .ok (.aload_n 0, 1) := by decide +kernel
theorem dX8_slip_98 : decode cX8_slip 98 = .ok (.iconst 0, 1) := by decide +kernel
theorem dX8_slip_99 : decode cX8_slip 99 = .ok (.putfield 74, 3) := by decide +kernel
theorem dX8_slip_102 : decode cX8_slip 102 = .ok (.iload 4, 2) := by decide +kernel
theorem dX8_slip_104 : decode cX8_slip 104 = .ok (.ireturn, 1) := by decide +kernel
theorem dX8_slip_105 : decode cX8_slip 105 = .ok (.iinc 3 (-1), 3) := by decide +kernel
theorem dX8_slip_108 : decode cX8_slip 108 = .ok (.iinc 4 1, 3) := by decide +kernel
theorem dX8_slip_111 : decode cX8_slip 111 = .ok (.goto (-73), 3) := by decide +kernel
theorem dX8_slip_114 : decode cX8_slip 114 = .ok (.aload_n 0, 1) := by decide +kernel
theorem dX8_slip_115 : decode cX8_slip 115 = .ok (.bipush 6, 2) := by decide +kernel
theorem dX8_slip_117 : decode cX8_slip 117 = .ok (.invokevirtual 110, 3) := by decide +kernel
theorem dX8_slip_120 : decode cX8_slip 120 = .ok (.ireturn, 1) := by decide +kernel
set_option maxRecDepth 20000 in
theorem ggX8_knownOf_X8_isGood : GoodIn wsX8_knownOf wsX8_isGood := goodIn_r _ [8, 9, 10, 11, 2, 12, 13, 14, 15, 16, 17, 18, 19, 20, 21, 22, 23, 24, 25, 26, 27, 28, 29, 30, 31, 32, 33, 34, 35, 36, 37, 38, 39, 40, 41, 42, 43] (by decide +kernel) (by decide +kernel)
set_option maxRecDepth 20000 in
theorem gX8_knownOf_X8_isGood : GoodIn wsX8_knownOf (wsV RX8 140 RX8 yX8_isGood wsX8_isGood) := goodIn_app (goodIn_of _ (by decide +kernel)) ggX8_knownOf_X8_isGood
theorem dX8_knownOf_0 : decode cX8_knownOf 0 = .ok (.iconst (-1), 1) := by decide +kernel
theorem dX8_knownOf_1 : decode cX8_knownOf 1 = .ok (.istore_n 3, 1) := by decide +kernel
theorem dX8_knownOf_2 : decode cX8_knownOf 2 = .ok (.iconst 0, 1) := by decide +kernel
theorem dX8_knownOf_3 : decode cX8_knownOf 3 = .ok (.istore 4, 2) := by decide +kernel
theorem dX8_knownOf_5 : decode cX8_knownOf 5 = .ok (.iload 4, 2) := by decide +kernel
theorem dX8_knownOf_7 : decode cX8_knownOf 7 = .ok (.aload_n 0, 1) := by decide +kernel
theorem dX8_knownOf_8 : decode cX8_knownOf 8 = .ok (.getfield 100, 3) := by decide +kernel
theorem dX8_knownOf_11 : decode cX8_knownOf 11 = .ok (.if_icmp .ge 43, 3) := by decide +kernel
theorem dX8_knownOf_14 : decode cX8_knownOf 14 = .ok (.aload_n 0, 1) := by decide +kernel
theorem dX8_knownOf_15 : decode cX8_knownOf 15 = .ok (.getfield 53, 3) := by decide +kernel
theorem dX8_knownOf_18 : decode cX8_knownOf 18 = .ok (.iload 4, 2) := by decide +kernel
theorem dX8_knownOf_20 : decode cX8_knownOf 20 = .ok (.iaload, 1) := by decide +kernel
theorem dX8_knownOf_21 : decode cX8_knownOf 21 = .ok (.iload_n 1, 1) := by decide +kernel
theorem dX8_knownOf_22 : decode cX8_knownOf 22 = .ok (.if_icmp .ne 26, 3) := by decide +kernel
theorem dX8_knownOf_25 : decode cX8_knownOf 25 = .ok (.aload_n 0, 1) := by decide +kernel
theorem dX8_knownOf_26 : decode cX8_knownOf 26 = .ok (.getfield 56, 3) := by decide +kernel
theorem dX8_knownOf_29 : decode cX8_knownOf 29 = .ok (.iload 4, 2) := by decide +kernel
theorem dX8_knownOf_31 : decode cX8_knownOf 31 = .ok (.iaload, 1) := by decide +kernel
theorem dX8_knownOf_32 : decode cX8_knownOf 32 = .ok (.iload_n 2, 1) := by decide +kernel
theorem dX8_knownOf_33 : decode cX8_knownOf 33 = .ok (.if_icmp .gt 15, 3) := by decide +kernel
theorem dX8_knownOf_36 : decode cX8_knownOf 36 = .ok (.aload_n 0, 1) := by decide +kernel
theorem dX8_knownOf_37 : decode cX8_knownOf 37 = .ok (.iload 4, 2) := by decide +kernel
theorem dX8_knownOf_39 : decode cX8_knownOf 39 = .ok (.invokevirtual 140, 3) := by decide +kernel
theorem dX8_knownOf_42 : decode cX8_knownOf 42 = .ok (.ifCond .eq 6, 3) := by decide +kernel
theorem dX8_knownOf_45 : decode cX8_knownOf 45 = .ok (.iload 4, 2) := by decide +kernel
theorem dX8_knownOf_47 : decode cX8_knownOf 47 = .ok (.istore_n 3, 1) := by decide +kernel
theorem dX8_knownOf_48 : decode cX8_knownOf 48 = .ok (.iinc 4 1, 3) := by decide +kernel
theorem dX8_knownOf_51 : decode cX8_knownOf 51 = .ok (.goto (-46), 3) := by decide +kernel
theorem dX8_knownOf_54 : decode cX8_knownOf 54 = .ok (.iload_n 3, 1) := by decide +kernel
theorem dX8_knownOf_55 : decode cX8_knownOf 55 = .ok (.ireturn, 1) := by decide +kernel
set_option maxRecDepth 20000 in
theorem ggX8_known_X8_isPoll : GoodIn wsX8_known wsX8_isPoll := goodIn_r _ [6, 7, 29, 30, 31, 32, 33, 34, 35, 36, 37, 38, 39, 40, 41, 42, 43, 44, 45, 46, 47, 48, 49, 50, 51, 52, 53, 54, 55, 56, 57, 58, 59, 60] (by decide +kernel) (by decide +kernel)
set_option maxRecDepth 20000 in
theorem gX8_known_X8_isPoll : GoodIn wsX8_known (wsV RX8 122 RX8 yX8_isPoll wsX8_isPoll) := goodIn_app (goodIn_of _ (by decide +kernel)) ggX8_known_X8_isPoll
set_option maxRecDepth 20000 in
theorem ggX8_known_X8_isMinute : GoodIn wsX8_known wsX8_isMinute := goodIn_r _ [10] (by decide +kernel) (by decide +kernel)
set_option maxRecDepth 20000 in
theorem gX8_known_X8_isMinute : GoodIn wsX8_known (va_wsS RX8 129 yX8_isMinute wsX8_isMinute) := goodIn_app (goodIn_of _ (by decide +kernel)) ggX8_known_X8_isMinute
set_option maxRecDepth 20000 in
theorem ggX8_known_X8_refuse : GoodIn wsX8_known wsX8_refuse := goodIn_r _ [14, 1, 29, 30, 31, 32, 33, 34, 35, 36, 37, 38, 39, 40, 41, 42, 43, 44, 45, 46, 47, 48, 49, 50, 51, 52, 53, 54, 55, 56, 57, 58, 59, 60] (by decide +kernel) (by decide +kernel)
set_option maxRecDepth 20000 in
theorem gX8_known_X8_refuse : GoodIn wsX8_known (wsV RX8 110 RX8 yX8_refuse wsX8_refuse) := goodIn_app (goodIn_of _ (by decide +kernel)) ggX8_known_X8_refuse
set_option maxRecDepth 20000 in
theorem ggX8_known_X8_knownOf : GoodIn wsX8_known wsX8_knownOf := goodIn_r _ [18, 19, 20, 21, 22, 23, 24, 5, 25, 26, 27, 28, 29, 30, 31, 32, 33, 34, 35, 36, 37, 38, 39, 40, 41, 42, 43, 44, 45, 46, 47, 48, 49, 50, 51, 52, 53, 54, 55, 56, 57, 58, 59, 60] (by decide +kernel) (by decide +kernel)
set_option maxRecDepth 20000 in
theorem gX8_known_X8_knownOf : GoodIn wsX8_known (wsV RX8 147 RX8 yX8_knownOf wsX8_knownOf) := goodIn_app (goodIn_of _ (by decide +kernel)) ggX8_known_X8_knownOf
theorem dX8_known_0 : decode cX8_known 0 = .ok (.aload_n 0, 1) := by decide +kernel
theorem dX8_known_1 : decode cX8_known 1 = .ok (.iload_n 1, 1) := by decide +kernel
theorem dX8_known_2 : decode cX8_known 2 = .ok (.invokevirtual 122, 3) := by decide +kernel
theorem dX8_known_5 : decode cX8_known 5 = .ok (.ifCond .eq 10, 3) := by decide +kernel
theorem dX8_known_8 : decode cX8_known 8 = .ok (.iload_n 2, 1) := by decide +kernel
theorem dX8_known_9 : decode cX8_known 9 = .ok (.invokestatic 129, 3) := by decide +kernel
theorem dX8_known_12 : decode cX8_known 12 = .ok (.ifCond .ne 9, 3) := by decide +kernel
theorem dX8_known_15 : decode cX8_known 15 = .ok (.aload_n 0, 1) := by decide +kernel
theorem dX8_known_16 : decode cX8_known 16 = .ok (.iconst 1, 1) := by decide +kernel
theorem dX8_known_17 : decode cX8_known 17 = .ok (.invokevirtual 110, 3) := by decide +kernel
theorem dX8_known_20 : decode cX8_known 20 = .ok (.ireturn, 1) := by decide +kernel
theorem dX8_known_21 : decode cX8_known 21 = .ok (.aload_n 0, 1) := by decide +kernel
theorem dX8_known_22 : decode cX8_known 22 = .ok (.iload_n 1, 1) := by decide +kernel
theorem dX8_known_23 : decode cX8_known 23 = .ok (.iload_n 2, 1) := by decide +kernel
theorem dX8_known_24 : decode cX8_known 24 = .ok (.invokevirtual 147, 3) := by decide +kernel
theorem dX8_known_27 : decode cX8_known 27 = .ok (.istore_n 3, 1) := by decide +kernel
theorem dX8_known_28 : decode cX8_known 28 = .ok (.iload_n 3, 1) := by decide +kernel
theorem dX8_known_29 : decode cX8_known 29 = .ok (.iconst (-1), 1) := by decide +kernel
theorem dX8_known_30 : decode cX8_known 30 = .ok (.if_icmp .ne 10, 3) := by decide +kernel
theorem dX8_known_33 : decode cX8_known 33 = .ok (.aload_n 0, 1) := by decide +kernel
theorem dX8_known_34 : decode cX8_known 34 = .ok (.bipush 6, 2) := by decide +kernel
theorem dX8_known_36 : decode cX8_known 36 = .ok (.invokevirtual 110, 3) := by decide +kernel
theorem dX8_known_39 : decode cX8_known 39 = .ok (.ireturn, 1) := by decide +kernel
theorem dX8_known_40 : decode cX8_known 40 = .ok (.aload_n 0, 1) := by decide +kernel
theorem dX8_known_41 : decode cX8_known 41 = .ok (.iconst 0, 1) := by decide +kernel
theorem dX8_known_42 : decode cX8_known 42 = .ok (.putfield 74, 3) := by decide +kernel
theorem dX8_known_45 : decode cX8_known 45 = .ok (.iload_n 3, 1) := by decide +kernel
theorem dX8_known_46 : decode cX8_known 46 = .ok (.ireturn, 1) := by decide +kernel
set_option maxRecDepth 20000 in
theorem ggX8_knowns_X8_knownOf : GoodIn wsX8_knowns wsX8_knownOf := goodIn_r _ [8, 9, 10, 11, 12, 13, 14, 7, 15, 16, 17, 18, 19, 20, 21, 22, 23, 24, 25, 26, 27, 28, 29, 30, 31, 32, 33, 34, 35, 36, 37, 38, 39, 40, 41, 42, 43, 44, 45, 46, 47, 48, 49, 50] (by decide +kernel) (by decide +kernel)
set_option maxRecDepth 20000 in
theorem gX8_knowns_X8_knownOf : GoodIn wsX8_knowns (wsV RX8 147 RX8 yX8_knownOf wsX8_knownOf) := goodIn_app (goodIn_of _ (by decide +kernel)) ggX8_knowns_X8_knownOf
theorem dX8_knowns_0 : decode cX8_knowns 0 = .ok (.iconst 0, 1) := by decide +kernel
theorem dX8_knowns_1 : decode cX8_knowns 1 = .ok (.istore_n 3, 1) := by decide +kernel
theorem dX8_knowns_2 : decode cX8_knowns 2 = .ok (.iconst 0, 1) := by decide +kernel
theorem dX8_knowns_3 : decode cX8_knowns 3 = .ok (.istore 4, 2) := by decide +kernel
theorem dX8_knowns_5 : decode cX8_knowns 5 = .ok (.iload 4, 2) := by decide +kernel
theorem dX8_knowns_7 : decode cX8_knowns 7 = .ok (.aload_n 0, 1) := by decide +kernel
theorem dX8_knowns_8 : decode cX8_knowns 8 = .ok (.getfield 97, 3) := by decide +kernel
theorem dX8_knowns_11 : decode cX8_knowns 11 = .ok (.if_icmp .ge 49, 3) := by decide +kernel
theorem dX8_knowns_14 : decode cX8_knowns 14 = .ok (.iload_n 3, 1) := by decide +kernel
theorem dX8_knowns_15 : decode cX8_knowns 15 = .ok (.aload_n 0, 1) := by decide +kernel
theorem dX8_knowns_16 : decode cX8_knowns 16 = .ok (.getfield 28, 3) := by decide +kernel
theorem dX8_knowns_19 : decode cX8_knowns 19 = .ok (.iload 4, 2) := by decide +kernel
theorem dX8_knowns_21 : decode cX8_knowns 21 = .ok (.iaload, 1) := by decide +kernel
theorem dX8_knowns_22 : decode cX8_knowns 22 = .ok (.iload_n 1, 1) := by decide +kernel
theorem dX8_knowns_23 : decode cX8_knowns 23 = .ok (.if_icmp .ne 28, 3) := by decide +kernel
theorem dX8_knowns_26 : decode cX8_knowns 26 = .ok (.aload_n 0, 1) := by decide +kernel
theorem dX8_knowns_27 : decode cX8_knowns 27 = .ok (.getfield 40, 3) := by decide +kernel
theorem dX8_knowns_30 : decode cX8_knowns 30 = .ok (.iload 4, 2) := by decide +kernel
theorem dX8_knowns_32 : decode cX8_knowns 32 = .ok (.baload, 1) := by decide +kernel
theorem dX8_knowns_33 : decode cX8_knowns 33 = .ok (.ifCond .eq 18, 3) := by decide +kernel
theorem dX8_knowns_36 : decode cX8_knowns 36 = .ok (.aload_n 0, 1) := by decide +kernel
theorem dX8_knowns_37 : decode cX8_knowns 37 = .ok (.iload 4, 2) := by decide +kernel
theorem dX8_knowns_39 : decode cX8_knowns 39 = .ok (.iload_n 2, 1) := by decide +kernel
theorem dX8_knowns_40 : decode cX8_knowns 40 = .ok (.invokevirtual 147, 3) := by decide +kernel
theorem dX8_knowns_43 : decode cX8_knowns 43 = .ok (.iconst (-1), 1) := by decide +kernel
theorem dX8_knowns_44 : decode cX8_knowns 44 = .ok (.if_icmp .eq 7, 3) := by decide +kernel
theorem dX8_knowns_47 : decode cX8_knowns 47 = .ok (.iconst 1, 1) := by decide +kernel
theorem dX8_knowns_48 : decode cX8_knowns 48 = .ok (.goto 4, 3) := by decide +kernel
theorem dX8_knowns_51 : decode cX8_knowns 51 = .ok (.iconst 0, 1) := by decide +kernel
theorem dX8_knowns_52 : decode cX8_knowns 52 = .ok (.iadd, 1) := by decide +kernel
theorem dX8_knowns_53 : decode cX8_knowns 53 = .ok (.istore_n 3, 1) := by decide +kernel
theorem dX8_knowns_54 : decode cX8_knowns 54 = .ok (.iinc 4 1, 3) := by decide +kernel
theorem dX8_knowns_57 : decode cX8_knowns 57 = .ok (.goto (-52), 3) := by decide +kernel
theorem dX8_knowns_60 : decode cX8_knowns 60 = .ok (.iload_n 3, 1) := by decide +kernel
theorem dX8_knowns_61 : decode cX8_knowns 61 = .ok (.ireturn, 1) := by decide +kernel
set_option maxRecDepth 20000 in
theorem ggX8_layer_X8_isLayer : GoodIn wsX8_layer wsX8_isLayer := goodIn_r _ [8] (by decide +kernel) (by decide +kernel)
set_option maxRecDepth 20000 in
theorem gX8_layer_X8_isLayer : GoodIn wsX8_layer (va_wsS RX8 107 yX8_isLayer wsX8_isLayer) := goodIn_app (goodIn_of _ (by decide +kernel)) ggX8_layer_X8_isLayer
set_option maxRecDepth 20000 in
theorem ggX8_layer_X8_isMinute : GoodIn wsX8_layer wsX8_isMinute := goodIn_r _ [11] (by decide +kernel) (by decide +kernel)
set_option maxRecDepth 20000 in
theorem gX8_layer_X8_isMinute : GoodIn wsX8_layer (va_wsS RX8 129 yX8_isMinute wsX8_isMinute) := goodIn_app (goodIn_of _ (by decide +kernel)) ggX8_layer_X8_isMinute
set_option maxRecDepth 20000 in
theorem ggX8_layer_X8_refuse : GoodIn wsX8_layer wsX8_refuse := goodIn_r _ [15, 2, 37, 38, 39, 40, 41, 42, 43, 44, 45, 46, 47, 48, 49, 50, 51, 52, 53, 54, 55, 56, 57, 58, 59, 60, 61, 62, 63, 64, 65, 66, 67, 68] (by decide +kernel) (by decide +kernel)
set_option maxRecDepth 20000 in
theorem gX8_layer_X8_refuse : GoodIn wsX8_layer (wsV RX8 110 RX8 yX8_refuse wsX8_refuse) := goodIn_app (goodIn_of _ (by decide +kernel)) ggX8_layer_X8_refuse
set_option maxRecDepth 20000 in
theorem ggX8_layer_X8_knowns : GoodIn wsX8_layer wsX8_knowns := goodIn_r _ [19, 20, 21, 22, 23, 24, 25, 7, 26, 27, 28, 29, 30, 31, 32, 33, 34, 35, 36, 37, 38, 39, 40, 41, 42, 43, 44, 45, 46, 47, 48, 49, 50, 51, 52, 53, 54, 55, 56, 57, 58, 59, 60, 61, 62, 63, 64, 65, 66, 67, 68] (by decide +kernel) (by decide +kernel)
set_option maxRecDepth 20000 in
theorem gX8_layer_X8_knowns : GoodIn wsX8_layer (wsV RX8 150 RX8 yX8_knowns wsX8_knowns) := goodIn_app (goodIn_of _ (by decide +kernel)) ggX8_layer_X8_knowns
theorem dX8_layer_0 : decode cX8_layer 0 = .ok (.iload_n 1, 1) := by decide +kernel
theorem dX8_layer_1 : decode cX8_layer 1 = .ok (.invokestatic 107, 3) := by decide +kernel
theorem dX8_layer_4 : decode cX8_layer 4 = .ok (.ifCond .eq 19, 3) := by decide +kernel
theorem dX8_layer_7 : decode cX8_layer 7 = .ok (.iload_n 2, 1) := by decide +kernel
theorem dX8_layer_8 : decode cX8_layer 8 = .ok (.ifCond .lt 15, 3) := by decide +kernel
theorem dX8_layer_11 : decode cX8_layer 11 = .ok (.iload_n 2, 1) := by decide +kernel
theorem dX8_layer_12 : decode cX8_layer 12 = .ok (.iconst 2, 1) := by decide +kernel
theorem dX8_layer_13 : decode cX8_layer 13 = .ok (.if_icmp .gt 10, 3) := by decide +kernel
theorem dX8_layer_16 : decode cX8_layer 16 = .ok (.iload_n 3, 1) := by decide +kernel
theorem dX8_layer_17 : decode cX8_layer 17 = .ok (.invokestatic 129, 3) := by decide +kernel
theorem dX8_layer_20 : decode cX8_layer 20 = .ok (.ifCond .ne 9, 3) := by decide +kernel
theorem dX8_layer_23 : decode cX8_layer 23 = .ok (.aload_n 0, 1) := by decide +kernel
theorem dX8_layer_24 : decode cX8_layer 24 = .ok (.iconst 1, 1) := by decide +kernel
theorem dX8_layer_25 : decode cX8_layer 25 = .ok (.invokevirtual 110, 3) := by decide +kernel
theorem dX8_layer_28 : decode cX8_layer 28 = .ok (.ireturn, 1) := by decide +kernel
theorem dX8_layer_29 : decode cX8_layer 29 = .ok (.aload_n 0, 1) := by decide +kernel
theorem dX8_layer_30 : decode cX8_layer 30 = .ok (.getfield 47, 3) := by decide +kernel
theorem dX8_layer_33 : decode cX8_layer 33 = .ok (.iload_n 1, 1) := by decide +kernel
theorem dX8_layer_34 : decode cX8_layer 34 = .ok (.baload, 1) := by decide +kernel
theorem dX8_layer_35 : decode cX8_layer 35 = .ok (.ifCond .ne 10, 3) := by decide +kernel
theorem dX8_layer_38 : decode cX8_layer 38 = .ok (.aload_n 0, 1) := by decide +kernel
theorem dX8_layer_39 : decode cX8_layer 39 = .ok (.bipush 6, 2) := by decide +kernel
theorem dX8_layer_41 : decode cX8_layer 41 = .ok (.invokevirtual 110, 3) := by decide +kernel
theorem dX8_layer_44 : decode cX8_layer 44 = .ok (.ireturn, 1) := by decide +kernel
theorem dX8_layer_45 : decode cX8_layer 45 = .ok (.aload_n 0, 1) := by decide +kernel
theorem dX8_layer_46 : decode cX8_layer 46 = .ok (.iconst 0, 1) := by decide +kernel
theorem dX8_layer_47 : decode cX8_layer 47 = .ok (.putfield 74, 3) := by decide +kernel
theorem dX8_layer_50 : decode cX8_layer 50 = .ok (.iload_n 2, 1) := by decide +kernel
theorem dX8_layer_51 : decode cX8_layer 51 = .ok (.ifCond .ne 12, 3) := by decide +kernel
theorem dX8_layer_54 : decode cX8_layer 54 = .ok (.aload_n 0, 1) := by decide +kernel
theorem dX8_layer_55 : decode cX8_layer 55 = .ok (.getfield 34, 3) := by decide +kernel
theorem dX8_layer_58 : decode cX8_layer 58 = .ok (.iload_n 1, 1) := by decide +kernel
theorem dX8_layer_59 : decode cX8_layer 59 = .ok (.iaload, 1) := by decide +kernel
theorem dX8_layer_60 : decode cX8_layer 60 = .ok (.goto 23, 3) := by decide +kernel
theorem dX8_layer_63 : decode cX8_layer 63 = .ok (.iload_n 2, 1) := by decide +kernel
theorem dX8_layer_64 : decode cX8_layer 64 = .ok (.iconst 1, 1) := by decide +kernel
theorem dX8_layer_65 : decode cX8_layer 65 = .ok (.if_icmp .ne 12, 3) := by decide +kernel
theorem dX8_layer_68 : decode cX8_layer 68 = .ok (.aload_n 0, 1) := by decide +kernel
theorem dX8_layer_69 : decode cX8_layer 69 = .ok (.iload_n 1, 1) := by decide +kernel
theorem dX8_layer_70 : decode cX8_layer 70 = .ok (.iload_n 3, 1) := by decide +kernel
theorem dX8_layer_71 : decode cX8_layer 71 = .ok (.invokevirtual 150, 3) := by decide +kernel
theorem dX8_layer_74 : decode cX8_layer 74 = .ok (.goto 9, 3) := by decide +kernel
theorem dX8_layer_77 : decode cX8_layer 77 = .ok (.aload_n 0, 1) := by decide +kernel
theorem dX8_layer_78 : decode cX8_layer 78 = .ok (.getfield 37, 3) := by decide +kernel
theorem dX8_layer_81 : decode cX8_layer 81 = .ok (.iload_n 1, 1) := by decide +kernel
theorem dX8_layer_82 : decode cX8_layer 82 = .ok (.iaload, 1) := by decide +kernel
theorem dX8_layer_83 : decode cX8_layer 83 = .ok (.ireturn, 1) := by decide +kernel
theorem dX8_common_0 : decode cX8_common 0 = .ok (.lload_n 0, 1) := by decide +kernel
theorem dX8_common_1 : decode cX8_common 1 = .ok (.lconst 0, 1) := by decide +kernel
theorem dX8_common_2 : decode cX8_common 2 = .ok (.lcmp, 1) := by decide +kernel
theorem dX8_common_3 : decode cX8_common 3 = .ok (.ifCond .ge 8, 3) := by decide +kernel
theorem dX8_common_6 : decode cX8_common 6 = .ok (.lload_n 0, 1) := by decide +kernel
theorem dX8_common_7 : decode cX8_common 7 = .ok (.lneg, 1) := by decide +kernel
theorem dX8_common_8 : decode cX8_common 8 = .ok (.goto 4, 3) := by decide +kernel
theorem dX8_common_11 : decode cX8_common 11 = .ok (.lload_n 0, 1) := by decide +kernel
theorem dX8_common_12 : decode cX8_common 12 = .ok (.lstore 4, 2) := by decide +kernel
theorem dX8_common_14 : decode cX8_common 14 = .ok (.lload_n 2, 1) := by decide +kernel
theorem dX8_common_15 : decode cX8_common 15 = .ok (.lstore 6, 2) := by decide +kernel
theorem dX8_common_17 : decode cX8_common 17 = .ok (.lload 6, 2) := by decide +kernel
theorem dX8_common_19 : decode cX8_common 19 = .ok (.lconst 0, 1) := by decide +kernel
theorem dX8_common_20 : decode cX8_common 20 = .ok (.lcmp, 1) := by decide +kernel
theorem dX8_common_21 : decode cX8_common 21 = .ok (.ifCond .eq 21, 3) := by decide +kernel
theorem dX8_common_24 : decode cX8_common 24 = .ok (.lload 4, 2) := by decide +kernel
theorem dX8_common_26 : decode cX8_common 26 = .ok (.lload 6, 2) := by decide +kernel
theorem dX8_common_28 : decode cX8_common 28 = .ok (.lrem, 1) := by decide +kernel
theorem dX8_common_29 : decode cX8_common 29 = .ok (.lstore 8, 2) := by decide +kernel
theorem dX8_common_31 : decode cX8_common 31 = .ok (.lload 6, 2) := by decide +kernel
theorem dX8_common_33 : decode cX8_common 33 = .ok (.lstore 4, 2) := by decide +kernel
theorem dX8_common_35 : decode cX8_common 35 = .ok (.lload 8, 2) := by decide +kernel
theorem dX8_common_37 : decode cX8_common 37 = .ok (.lstore 6, 2) := by decide +kernel
theorem dX8_common_39 : decode cX8_common 39 = .ok (.goto (-22), 3) := by decide +kernel
theorem dX8_common_42 : decode cX8_common 42 = .ok (.lload 4, 2) := by decide +kernel
theorem dX8_common_44 : decode cX8_common 44 = .ok (.lreturn, 1) := by decide +kernel
set_option maxRecDepth 20000 in
theorem ggX8_add_X8_common : GoodIn wsX8_add wsX8_common := goodIn_r _ [6] (by decide +kernel) (by decide +kernel)
set_option maxRecDepth 20000 in
theorem gX8_add_X8_common : GoodIn wsX8_add (va_wsS RX8 153 yX8_common wsX8_common) := goodIn_app (goodIn_of _ (by decide +kernel)) ggX8_add_X8_common
theorem dX8_add_0 : decode cX8_add 0 = .ok (.lload_n 1, 1) := by decide +kernel
theorem dX8_add_1 : decode cX8_add 1 = .ok (.lload_n 3, 1) := by decide +kernel
theorem dX8_add_2 : decode cX8_add 2 = .ok (.invokestatic 153, 3) := by decide +kernel
theorem dX8_add_5 : decode cX8_add 5 = .ok (.lstore 5, 2) := by decide +kernel
theorem dX8_add_7 : decode cX8_add 7 = .ok (.lload_n 1, 1) := by decide +kernel
theorem dX8_add_8 : decode cX8_add 8 = .ok (.lload 5, 2) := by decide +kernel
theorem dX8_add_10 : decode cX8_add 10 = .ok (.ldiv, 1) := by decide +kernel
theorem dX8_add_11 : decode cX8_add 11 = .ok (.lstore 7, 2) := by decide +kernel
theorem dX8_add_13 : decode cX8_add 13 = .ok (.lload_n 3, 1) := by decide +kernel
theorem dX8_add_14 : decode cX8_add 14 = .ok (.lload 5, 2) := by decide +kernel
theorem dX8_add_16 : decode cX8_add 16 = .ok (.ldiv, 1) := by decide +kernel
theorem dX8_add_17 : decode cX8_add 17 = .ok (.lstore 9, 2) := by decide +kernel
theorem dX8_add_19 : decode cX8_add 19 = .ok (.aload_n 0, 1) := by decide +kernel
theorem dX8_add_20 : decode cX8_add 20 = .ok (.getfield 157, 3) := by decide +kernel
theorem dX8_add_23 : decode cX8_add 23 = .ok (.lload 9, 2) := by decide +kernel
theorem dX8_add_25 : decode cX8_add 25 = .ok (.invokestatic 153, 3) := by decide +kernel
theorem dX8_add_28 : decode cX8_add 28 = .ok (.lstore 11, 2) := by decide +kernel
theorem dX8_add_30 : decode cX8_add 30 = .ok (.aload_n 0, 1) := by decide +kernel
theorem dX8_add_31 : decode cX8_add 31 = .ok (.aload_n 0, 1) := by decide +kernel
theorem dX8_add_32 : decode cX8_add 32 = .ok (.getfield 160, 3) := by decide +kernel
theorem dX8_add_35 : decode cX8_add 35 = .ok (.lload 9, 2) := by decide +kernel
theorem dX8_add_37 : decode cX8_add 37 = .ok (.lload 11, 2) := by decide +kernel
theorem dX8_add_39 : decode cX8_add 39 = .ok (.ldiv, 1) := by decide +kernel
theorem dX8_add_40 : decode cX8_add 40 = .ok (.lmul, 1) := by decide +kernel
theorem dX8_add_41 : decode cX8_add 41 = .ok (.lload 7, 2) := by decide +kernel
theorem dX8_add_43 : decode cX8_add 43 = .ok (.aload_n 0, 1) := by decide +kernel
theorem dX8_add_44 : decode cX8_add 44 = .ok (.getfield 157, 3) := by decide +kernel
theorem dX8_add_47 : decode cX8_add 47 = .ok (.lload 11, 2) := by decide +kernel
theorem dX8_add_49 : decode cX8_add 49 = .ok (.ldiv, 1) := by decide +kernel
theorem dX8_add_50 : decode cX8_add 50 = .ok (.lmul, 1) := by decide +kernel
theorem dX8_add_51 : decode cX8_add 51 = .ok (.ladd, 1) := by decide +kernel
theorem dX8_add_52 : decode cX8_add 52 = .ok (.putfield 160, 3) := by decide +kernel
theorem dX8_add_55 : decode cX8_add 55 = .ok (.aload_n 0, 1) := by decide +kernel
theorem dX8_add_56 : decode cX8_add 56 = .ok (.aload_n 0, 1) := by decide +kernel
theorem dX8_add_57 : decode cX8_add 57 = .ok (.getfield 157, 3) := by decide +kernel
theorem dX8_add_60 : decode cX8_add 60 = .ok (.lload 11, 2) := by decide +kernel
theorem dX8_add_62 : decode cX8_add 62 = .ok (.ldiv, 1) := by decide +kernel
theorem dX8_add_63 : decode cX8_add 63 = .ok (.lload 9, 2) := by decide +kernel
theorem dX8_add_65 : decode cX8_add 65 = .ok (.lmul, 1) := by decide +kernel
theorem dX8_add_66 : decode cX8_add 66 = .ok (.putfield 157, 3) := by decide +kernel
theorem dX8_add_69 : decode cX8_add 69 = .ok (.aload_n 0, 1) := by decide +kernel
theorem dX8_add_70 : decode cX8_add 70 = .ok (.getfield 160, 3) := by decide +kernel
theorem dX8_add_73 : decode cX8_add 73 = .ok (.aload_n 0, 1) := by decide +kernel
theorem dX8_add_74 : decode cX8_add 74 = .ok (.getfield 157, 3) := by decide +kernel
theorem dX8_add_77 : decode cX8_add 77 = .ok (.invokestatic 153, 3) := by decide +kernel
theorem dX8_add_80 : decode cX8_add 80 = .ok (.lstore 5, 2) := by decide +kernel
theorem dX8_add_82 : decode cX8_add 82 = .ok (.aload_n 0, 1) := by decide +kernel
theorem dX8_add_83 : decode cX8_add 83 = .ok (.dup, 1) := by decide +kernel
theorem dX8_add_84 : decode cX8_add 84 = .ok (.getfield 160, 3) := by decide +kernel
theorem dX8_add_87 : decode cX8_add 87 = .ok (.lload 5, 2) := by decide +kernel
theorem dX8_add_89 : decode cX8_add 89 = .ok (.ldiv, 1) := by decide +kernel
theorem dX8_add_90 : decode cX8_add 90 = .ok (.putfield 160, 3) := by decide +kernel
theorem dX8_add_93 : decode cX8_add 93 = .ok (.aload_n 0, 1) := by decide +kernel
theorem dX8_add_94 : decode cX8_add 94 = .ok (.dup, 1) := by decide +kernel
theorem dX8_add_95 : decode cX8_add 95 = .ok (.getfield 157, 3) := by decide +kernel
theorem dX8_add_98 : decode cX8_add 98 = .ok (.lload 5, 2) := by decide +kernel
theorem dX8_add_100 : decode cX8_add 100 = .ok (.ldiv, 1) := by decide +kernel
theorem dX8_add_101 : decode cX8_add 101 = .ok (.putfield 157, 3) := by decide +kernel
theorem dX8_add_104 : decode cX8_add 104 = .ok (.return_, 1) := by decide +kernel
set_option maxRecDepth 20000 in
theorem ggX8_has_X8_knownOf : GoodIn wsX8_has wsX8_knownOf := goodIn_r _ [6, 7, 8, 9, 10, 11, 12, 5, 13, 14, 1, 15, 16, 17, 18, 19, 20, 21, 22, 23, 24, 25, 26, 27, 28, 29, 30, 31, 32, 33, 34, 35, 36, 37, 38, 39, 40, 41, 42, 43, 44, 45, 46, 47] (by decide +kernel) (by decide +kernel)
set_option maxRecDepth 20000 in
theorem gX8_has_X8_knownOf : GoodIn wsX8_has (wsV RX8 147 RX8 yX8_knownOf wsX8_knownOf) := goodIn_app (goodIn_of _ (by decide +kernel)) ggX8_has_X8_knownOf
theorem dX8_has_0 : decode cX8_has 0 = .ok (.aload_n 0, 1) := by decide +kernel
theorem dX8_has_1 : decode cX8_has 1 = .ok (.iload_n 1, 1) := by decide +kernel
theorem dX8_has_2 : decode cX8_has 2 = .ok (.iload_n 2, 1) := by decide +kernel
theorem dX8_has_3 : decode cX8_has 3 = .ok (.invokevirtual 147, 3) := by decide +kernel
theorem dX8_has_6 : decode cX8_has 6 = .ok (.istore 5, 2) := by decide +kernel
theorem dX8_has_8 : decode cX8_has 8 = .ok (.aload_n 0, 1) := by decide +kernel
theorem dX8_has_9 : decode cX8_has 9 = .ok (.getfield 59, 3) := by decide +kernel
theorem dX8_has_12 : decode cX8_has 12 = .ok (.bipush 6, 2) := by decide +kernel
theorem dX8_has_14 : decode cX8_has 14 = .ok (.iload 5, 2) := by decide +kernel
theorem dX8_has_16 : decode cX8_has 16 = .ok (.imul, 1) := by decide +kernel
theorem dX8_has_17 : decode cX8_has 17 = .ok (.iload_n 3, 1) := by decide +kernel
theorem dX8_has_18 : decode cX8_has 18 = .ok (.iadd, 1) := by decide +kernel
theorem dX8_has_19 : decode cX8_has 19 = .ok (.iaload, 1) := by decide +kernel
theorem dX8_has_20 : decode cX8_has 20 = .ok (.i2l, 1) := by decide +kernel
theorem dX8_has_21 : decode cX8_has 21 = .ok (.iload 4, 2) := by decide +kernel
theorem dX8_has_23 : decode cX8_has 23 = .ok (.iconst (-1), 1) := by decide +kernel
theorem dX8_has_24 : decode cX8_has 24 = .ok (.if_icmp .ne 7, 3) := by decide +kernel
theorem dX8_has_27 : decode cX8_has 27 = .ok (.lconst 0, 1) := by decide +kernel
theorem dX8_has_28 : decode cX8_has 28 = .ok (.goto 17, 3) := by decide +kernel
theorem dX8_has_31 : decode cX8_has 31 = .ok (.aload_n 0, 1) := by decide +kernel
theorem dX8_has_32 : decode cX8_has 32 = .ok (.getfield 59, 3) := by decide +kernel
theorem dX8_has_35 : decode cX8_has 35 = .ok (.bipush 6, 2) := by decide +kernel
theorem dX8_has_37 : decode cX8_has 37 = .ok (.iload 5, 2) := by decide +kernel
theorem dX8_has_39 : decode cX8_has 39 = .ok (.imul, 1) := by decide +kernel
theorem dX8_has_40 : decode cX8_has 40 = .ok (.iload 4, 2) := by decide +kernel
theorem dX8_has_42 : decode cX8_has 42 = .ok (.iadd, 1) := by decide +kernel
theorem dX8_has_43 : decode cX8_has 43 = .ok (.iaload, 1) := by decide +kernel
theorem dX8_has_44 : decode cX8_has 44 = .ok (.i2l, 1) := by decide +kernel
theorem dX8_has_45 : decode cX8_has 45 = .ok (.lsub, 1) := by decide +kernel
theorem dX8_has_46 : decode cX8_has 46 = .ok (.lreturn, 1) := by decide +kernel
set_option maxRecDepth 20000 in
theorem ggX8_sums_X8_knowns : GoodIn wsX8_sums wsX8_knowns := goodIn_r _ [12, 4, 5, 6, 13, 14, 15, 11, 16, 17, 18, 19, 20, 21, 22, 23, 24, 25, 26, 38, 39, 40, 41, 42, 43, 44, 45, 46, 47, 48, 49, 50, 51, 52, 53, 54, 55, 56, 57, 58, 59, 60, 61, 62, 63, 64, 65, 66, 67, 68, 69] (by decide +kernel) (by decide +kernel)
set_option maxRecDepth 20000 in
theorem gX8_sums_X8_knowns : GoodIn wsX8_sums (wsV RX8 150 RX8 yX8_knowns wsX8_knowns) := goodIn_app (goodIn_of _ (by decide +kernel)) ggX8_sums_X8_knowns
set_option maxRecDepth 20000 in
theorem ggX8_sums_X8_knownOf : GoodIn wsX8_sums wsX8_knownOf := goodIn_r _ [16, 17, 18, 19, 20, 21, 22, 11, 23, 24, 25, 26, 38, 39, 40, 41, 42, 43, 44, 45, 46, 47, 48, 49, 50, 51, 52, 53, 54, 55, 56, 57, 58, 59, 60, 61, 62, 63, 64, 65, 66, 67, 68, 69] (by decide +kernel) (by decide +kernel)
set_option maxRecDepth 20000 in
theorem gX8_sums_X8_knownOf : GoodIn wsX8_sums (wsV RX8 147 RX8 yX8_knownOf wsX8_knownOf) := goodIn_app (goodIn_of _ (by decide +kernel)) ggX8_sums_X8_knownOf
set_option maxRecDepth 20000 in
theorem ggX8_sums_X8_has : GoodIn wsX8_sums wsX8_has := goodIn_r _ [30, 25, 13, 14, 15, 11, 16, 17, 18, 19, 20, 21, 22, 23, 24, 26, 38, 39, 40, 41, 42, 43, 44, 45, 46, 47, 48, 49, 50, 51, 52, 53, 54, 55, 56, 57, 58, 59, 60, 61, 62, 63, 64, 65, 66, 67, 68, 69] (by decide +kernel) (by decide +kernel)
set_option maxRecDepth 20000 in
theorem gX8_sums_X8_has : GoodIn wsX8_sums (wsV RX8 163 RX8 yX8_has wsX8_has) := goodIn_app (goodIn_of _ (by decide +kernel)) ggX8_sums_X8_has
set_option maxRecDepth 20000 in
theorem ggX8_sums_X8_add : GoodIn wsX8_sums wsX8_add := goodIn_r _ [34, 2, 1, 35, 36, 11, 37, 38, 39, 40, 41, 42, 43, 44, 45, 46, 47, 48, 49, 50, 51, 52, 53, 54, 55, 56, 57, 58, 59, 60, 61, 62, 63, 64, 65, 66, 67, 68, 69] (by decide +kernel) (by decide +kernel)
set_option maxRecDepth 20000 in
theorem gX8_sums_X8_add : GoodIn wsX8_sums (wsV RX8 167 RX8 yX8_add wsX8_add) := goodIn_app (goodIn_of _ (by decide +kernel)) ggX8_sums_X8_add
theorem dX8_sums_0 : decode cX8_sums 0 = .ok (.aload_n 0, 1) := by decide +kernel
theorem dX8_sums_1 : decode cX8_sums 1 = .ok (.lconst 0, 1) := by decide +kernel
theorem dX8_sums_2 : decode cX8_sums 2 = .ok (.putfield 160, 3) := by decide +kernel
theorem dX8_sums_5 : decode cX8_sums 5 = .ok (.aload_n 0, 1) := by decide +kernel
theorem dX8_sums_6 : decode cX8_sums 6 = .ok (.lconst 1, 1) := by decide +kernel
theorem dX8_sums_7 : decode cX8_sums 7 = .ok (.putfield 157, 3) := by decide +kernel
theorem dX8_sums_10 : decode cX8_sums 10 = .ok (.iconst 0, 1) := by decide +kernel
theorem dX8_sums_11 : decode cX8_sums 11 = .ok (.istore 4, 2) := by decide +kernel
theorem dX8_sums_13 : decode cX8_sums 13 = .ok (.iconst 0, 1) := by decide +kernel
theorem dX8_sums_14 : decode cX8_sums 14 = .ok (.istore 5, 2) := by decide +kernel
theorem dX8_sums_16 : decode cX8_sums 16 = .ok (.iload 5, 2) := by decide +kernel
theorem dX8_sums_18 : decode cX8_sums 18 = .ok (.iconst 4, 1) := by decide +kernel
theorem dX8_sums_19 : decode cX8_sums 19 = .ok (.if_icmp .ge 127, 3) := by decide +kernel
theorem dX8_sums_22 : decode cX8_sums 22 = .ok (.aload_n 0, 1) := by decide +kernel
theorem dX8_sums_23 : decode cX8_sums 23 = .ok (.getfield 47, 3) := by decide +kernel
theorem dX8_sums_26 : decode cX8_sums 26 = .ok (.iload 5, 2) := by decide +kernel
theorem dX8_sums_28 : decode cX8_sums 28 = .ok (.baload, 1) := by decide +kernel
theorem dX8_sums_29 : decode cX8_sums 29 = .ok (.ifCond .ne 6, 3) := by decide +kernel
theorem dX8_sums_32 : decode cX8_sums 32 = .ok (.goto 108, 3) := by decide +kernel
theorem dX8_sums_35 : decode cX8_sums 35 = .ok (.iconst 1, 1) := by decide +kernel
theorem dX8_sums_36 : decode cX8_sums 36 = .ok (.istore 4, 2) := by decide +kernel
theorem dX8_sums_38 : decode cX8_sums 38 = .ok (.aload_n 0, 1) := by decide +kernel
theorem dX8_sums_39 : decode cX8_sums 39 = .ok (.iload 5, 2) := by decide +kernel
theorem dX8_sums_41 : decode cX8_sums 41 = .ok (.iload_n 3, 1) := by decide +kernel
theorem dX8_sums_42 : decode cX8_sums 42 = .ok (.invokevirtual 150, 3) := by decide +kernel
theorem dX8_sums_45 : decode cX8_sums 45 = .ok (.istore 6, 2) := by decide +kernel
theorem dX8_sums_47 : decode cX8_sums 47 = .ok (.iload 6, 2) := by decide +kernel
theorem dX8_sums_49 : decode cX8_sums 49 = .ok (.ifCond .ne 5, 3) := by decide +kernel
theorem dX8_sums_52 : decode cX8_sums 52 = .ok (.iconst 0, 1) := by decide +kernel
theorem dX8_sums_53 : decode cX8_sums 53 = .ok (.ireturn, 1) := by decide +kernel
theorem dX8_sums_54 : decode cX8_sums 54 = .ok (.lconst 0, 1) := by decide +kernel
theorem dX8_sums_55 : decode cX8_sums 55 = .ok (.lstore 7, 2) := by decide +kernel
theorem dX8_sums_57 : decode cX8_sums 57 = .ok (.iconst 0, 1) := by decide +kernel
theorem dX8_sums_58 : decode cX8_sums 58 = .ok (.istore 9, 2) := by decide +kernel
theorem dX8_sums_60 : decode cX8_sums 60 = .ok (.iload 9, 2) := by decide +kernel
theorem dX8_sums_62 : decode cX8_sums 62 = .ok (.aload_n 0, 1) := by decide +kernel
theorem dX8_sums_63 : decode cX8_sums 63 = .ok (.getfield 97, 3) := by decide +kernel
theorem dX8_sums_66 : decode cX8_sums 66 = .ok (.if_icmp .ge 56, 3) := by decide +kernel
theorem dX8_sums_69 : decode cX8_sums 69 = .ok (.aload_n 0, 1) := by decide +kernel
theorem dX8_sums_70 : decode cX8_sums 70 = .ok (.getfield 28, 3) := by decide +kernel
theorem dX8_sums_73 : decode cX8_sums 73 = .ok (.iload 9, 2) := by decide +kernel
theorem dX8_sums_75 : decode cX8_sums 75 = .ok (.iaload, 1) := by decide +kernel
theorem dX8_sums_76 : decode cX8_sums 76 = .ok (.iload 5, 2) := by decide +kernel
theorem dX8_sums_78 : decode cX8_sums 78 = .ok (.if_icmp .ne 38, 3) := by decide +kernel
theorem dX8_sums_81 : decode cX8_sums 81 = .ok (.aload_n 0, 1) := by decide +kernel
theorem dX8_sums_82 : decode cX8_sums 82 = .ok (.getfield 40, 3) := by decide +kernel
theorem dX8_sums_85 : decode cX8_sums 85 = .ok (.iload 9, 2) := by decide +kernel
theorem dX8_sums_87 : decode cX8_sums 87 = .ok (.baload, 1) := by decide +kernel
theorem dX8_sums_88 : decode cX8_sums 88 = .ok (.ifCond .eq 28, 3) := by decide +kernel
theorem dX8_sums_91 : decode cX8_sums 91 = .ok (.aload_n 0, 1) := by decide +kernel
theorem dX8_sums_92 : decode cX8_sums 92 = .ok (.iload 9, 2) := by decide +kernel
theorem dX8_sums_94 : decode cX8_sums 94 = .ok (.iload_n 3, 1) := by decide +kernel
theorem dX8_sums_95 : decode cX8_sums 95 = .ok (.invokevirtual 147, 3) := by decide +kernel
theorem dX8_sums_98 : decode cX8_sums 98 = .ok (.iconst (-1), 1) := by decide +kernel
theorem dX8_sums_99 : decode cX8_sums 99 = .ok (.if_icmp .eq 17, 3) := by decide +kernel
theorem dX8_sums_102 : decode cX8_sums 102 = .ok (.lload 7, 2) := by decide +kernel
theorem dX8_sums_104 : decode cX8_sums 104 = .ok (.aload_n 0, 1) := by decide +kernel
theorem dX8_sums_105 : decode cX8_sums 105 = .ok (.iload 9, 2) := by decide +kernel
theorem dX8_sums_107 : decode cX8_sums 107 = .ok (.iload_n 3, 1) := by decide +kernel
theorem dX8_sums_108 : decode cX8_sums 108 = .ok (.iload_n 1, 1) := by decide +kernel
theorem dX8_sums_109 : decode cX8_sums 109 = .ok (.iload_n 2, 1) := by decide +kernel
theorem dX8_sums_110 : decode cX8_sums 110 = .ok (.invokevirtual 163, 3) := by decide +kernel
theorem dX8_sums_113 : decode cX8_sums 113 = .ok (.ladd, 1) := by decide +kernel
theorem dX8_sums_114 : decode cX8_sums 114 = .ok (.lstore 7, 2) := by decide +kernel
theorem dX8_sums_116 : decode cX8_sums 116 = .ok (.iinc 9 1, 3) := by decide +kernel
theorem dX8_sums_119 : decode cX8_sums 119 = .ok (.goto (-59), 3) := by decide +kernel
theorem dX8_sums_122 : decode cX8_sums 122 = .ok (.aload_n 0, 1) := by decide +kernel
theorem dX8_sums_123 : decode cX8_sums 123 = .ok (.aload_n 0, 1) := by decide +kernel
theorem dX8_sums_124 : decode cX8_sums 124 = .ok (.getfield 37, 3) := by decide +kernel
theorem dX8_sums_127 : decode cX8_sums 127 = .ok (.iload 5, 2) := by decide +kernel
theorem dX8_sums_129 : decode cX8_sums 129 = .ok (.iaload, 1) := by decide +kernel
theorem dX8_sums_130 : decode cX8_sums 130 = .ok (.i2l, 1) := by decide +kernel
theorem dX8_sums_131 : decode cX8_sums 131 = .ok (.lload 7, 2) := by decide +kernel
theorem dX8_sums_133 : decode cX8_sums 133 = .ok (.lmul, 1) := by decide +kernel
theorem dX8_sums_134 : decode cX8_sums 134 = .ok (.iload 6, 2) := by decide +kernel
theorem dX8_sums_136 : decode cX8_sums 136 = .ok (.i2l, 1) := by decide +kernel
theorem dX8_sums_137 : decode cX8_sums 137 = .ok (.invokevirtual 167, 3) := by decide +kernel
theorem dX8_sums_140 : decode cX8_sums 140 = .ok (.iinc 5 1, 3) := by decide +kernel
theorem dX8_sums_143 : decode cX8_sums 143 = .ok (.goto (-127), 3) := by decide +kernel
theorem dX8_sums_146 : decode cX8_sums 146 = .ok (.iload 4, 2) := by decide +kernel
theorem dX8_sums_148 : decode cX8_sums 148 = .ok (.ireturn, 1) := by decide +kernel
set_option maxRecDepth 20000 in
theorem ggX8_doubts_X8_knowns : GoodIn wsX8_doubts wsX8_knowns := goodIn_r _ [13, 5, 6, 7, 14, 15, 16, 12, 17, 18, 19, 20, 21, 22, 23, 24, 25, 26, 27, 39, 40, 41, 42, 43, 44, 45, 46, 47, 48, 49, 50, 51, 52, 53, 54, 55, 56, 57, 58, 59, 60, 61, 62, 63, 64, 65, 66, 67, 68, 69, 70] (by decide +kernel) (by decide +kernel)
set_option maxRecDepth 20000 in
theorem gX8_doubts_X8_knowns : GoodIn wsX8_doubts (wsV RX8 150 RX8 yX8_knowns wsX8_knowns) := goodIn_app (goodIn_of _ (by decide +kernel)) ggX8_doubts_X8_knowns
set_option maxRecDepth 20000 in
theorem ggX8_doubts_X8_knownOf : GoodIn wsX8_doubts wsX8_knownOf := goodIn_r _ [17, 18, 19, 20, 21, 22, 23, 12, 24, 25, 26, 27, 39, 40, 41, 42, 43, 44, 45, 46, 47, 48, 49, 50, 51, 52, 53, 54, 55, 56, 57, 58, 59, 60, 61, 62, 63, 64, 65, 66, 67, 68, 69, 70] (by decide +kernel) (by decide +kernel)
set_option maxRecDepth 20000 in
theorem gX8_doubts_X8_knownOf : GoodIn wsX8_doubts (wsV RX8 147 RX8 yX8_knownOf wsX8_knownOf) := goodIn_app (goodIn_of _ (by decide +kernel)) ggX8_doubts_X8_knownOf
set_option maxRecDepth 20000 in
theorem ggX8_doubts_X8_has : GoodIn wsX8_doubts wsX8_has := goodIn_r _ [31, 26, 14, 15, 16, 12, 17, 18, 19, 20, 21, 22, 23, 24, 25, 27, 39, 40, 41, 42, 43, 44, 45, 46, 47, 48, 49, 50, 51, 52, 53, 54, 55, 56, 57, 58, 59, 60, 61, 62, 63, 64, 65, 66, 67, 68, 69, 70] (by decide +kernel) (by decide +kernel)
set_option maxRecDepth 20000 in
theorem gX8_doubts_X8_has : GoodIn wsX8_doubts (wsV RX8 163 RX8 yX8_has wsX8_has) := goodIn_app (goodIn_of _ (by decide +kernel)) ggX8_doubts_X8_has
set_option maxRecDepth 20000 in
theorem ggX8_doubts_X8_add : GoodIn wsX8_doubts wsX8_add := goodIn_r _ [35, 2, 1, 36, 37, 12, 38, 39, 40, 41, 42, 43, 44, 45, 46, 47, 48, 49, 50, 51, 52, 53, 54, 55, 56, 57, 58, 59, 60, 61, 62, 63, 64, 65, 66, 67, 68, 69, 70] (by decide +kernel) (by decide +kernel)
set_option maxRecDepth 20000 in
theorem gX8_doubts_X8_add : GoodIn wsX8_doubts (wsV RX8 167 RX8 yX8_add wsX8_add) := goodIn_app (goodIn_of _ (by decide +kernel)) ggX8_doubts_X8_add
theorem dX8_doubts_0 : decode cX8_doubts 0 = .ok (.aload_n 0, 1) := by decide +kernel
theorem dX8_doubts_1 : decode cX8_doubts 1 = .ok (.lconst 0, 1) := by decide +kernel
theorem dX8_doubts_2 : decode cX8_doubts 2 = .ok (.putfield 160, 3) := by decide +kernel
theorem dX8_doubts_5 : decode cX8_doubts 5 = .ok (.aload_n 0, 1) := by decide +kernel
theorem dX8_doubts_6 : decode cX8_doubts 6 = .ok (.lconst 1, 1) := by decide +kernel
theorem dX8_doubts_7 : decode cX8_doubts 7 = .ok (.putfield 157, 3) := by decide +kernel
theorem dX8_doubts_10 : decode cX8_doubts 10 = .ok (.iconst 0, 1) := by decide +kernel
theorem dX8_doubts_11 : decode cX8_doubts 11 = .ok (.istore 4, 2) := by decide +kernel
theorem dX8_doubts_13 : decode cX8_doubts 13 = .ok (.iconst 0, 1) := by decide +kernel
theorem dX8_doubts_14 : decode cX8_doubts 14 = .ok (.istore 5, 2) := by decide +kernel
theorem dX8_doubts_16 : decode cX8_doubts 16 = .ok (.iload 5, 2) := by decide +kernel
theorem dX8_doubts_18 : decode cX8_doubts 18 = .ok (.iconst 4, 1) := by decide +kernel
theorem dX8_doubts_19 : decode cX8_doubts 19 = .ok (.if_icmp .ge 178, 3) := by decide +kernel
theorem dX8_doubts_22 : decode cX8_doubts 22 = .ok (.aload_n 0, 1) := by decide +kernel
theorem dX8_doubts_23 : decode cX8_doubts 23 = .ok (.getfield 47, 3) := by decide +kernel
theorem dX8_doubts_26 : decode cX8_doubts 26 = .ok (.iload 5, 2) := by decide +kernel
theorem dX8_doubts_28 : decode cX8_doubts 28 = .ok (.baload, 1) := by decide +kernel
theorem dX8_doubts_29 : decode cX8_doubts 29 = .ok (.ifCond .ne 6, 3) := by decide +kernel
theorem dX8_doubts_32 : decode cX8_doubts 32 = .ok (.goto 159, 3) := by decide +kernel
theorem dX8_doubts_35 : decode cX8_doubts 35 = .ok (.iconst 1, 1) := by decide +kernel
theorem dX8_doubts_36 : decode cX8_doubts 36 = .ok (.istore 4, 2) := by decide +kernel
theorem dX8_doubts_38 : decode cX8_doubts 38 = .ok (.aload_n 0, 1) := by decide +kernel
theorem dX8_doubts_39 : decode cX8_doubts 39 = .ok (.iload 5, 2) := by decide +kernel
theorem dX8_doubts_41 : decode cX8_doubts 41 = .ok (.iload_n 3, 1) := by decide +kernel
theorem dX8_doubts_42 : decode cX8_doubts 42 = .ok (.invokevirtual 150, 3) := by decide +kernel
theorem dX8_doubts_45 : decode cX8_doubts 45 = .ok (.i2l, 1) := by decide +kernel
theorem dX8_doubts_46 : decode cX8_doubts 46 = .ok (.lstore 6, 2) := by decide +kernel
theorem dX8_doubts_48 : decode cX8_doubts 48 = .ok (.lload 6, 2) := by decide +kernel
theorem dX8_doubts_50 : decode cX8_doubts 50 = .ok (.ldc2_w 171, 3) := by decide +kernel
theorem dX8_doubts_53 : decode cX8_doubts 53 = .ok (.lcmp, 1) := by decide +kernel
theorem dX8_doubts_54 : decode cX8_doubts 54 = .ok (.ifCond .ge 5, 3) := by decide +kernel
theorem dX8_doubts_57 : decode cX8_doubts 57 = .ok (.iconst 0, 1) := by decide +kernel
theorem dX8_doubts_58 : decode cX8_doubts 58 = .ok (.ireturn, 1) := by decide +kernel
theorem dX8_doubts_59 : decode cX8_doubts 59 = .ok (.lconst 0, 1) := by decide +kernel
theorem dX8_doubts_60 : decode cX8_doubts 60 = .ok (.lstore 8, 2) := by decide +kernel
theorem dX8_doubts_62 : decode cX8_doubts 62 = .ok (.lconst 0, 1) := by decide +kernel
theorem dX8_doubts_63 : decode cX8_doubts 63 = .ok (.lstore 10, 2) := by decide +kernel
theorem dX8_doubts_65 : decode cX8_doubts 65 = .ok (.iconst 0, 1) := by decide +kernel
theorem dX8_doubts_66 : decode cX8_doubts 66 = .ok (.istore 12, 2) := by decide +kernel
theorem dX8_doubts_68 : decode cX8_doubts 68 = .ok (.iload 12, 2) := by decide +kernel
theorem dX8_doubts_70 : decode cX8_doubts 70 = .ok (.aload_n 0, 1) := by decide +kernel
theorem dX8_doubts_71 : decode cX8_doubts 71 = .ok (.getfield 97, 3) := by decide +kernel
theorem dX8_doubts_74 : decode cX8_doubts 74 = .ok (.if_icmp .ge 73, 3) := by decide +kernel
theorem dX8_doubts_77 : decode cX8_doubts 77 = .ok (.aload_n 0, 1) := by decide +kernel
theorem dX8_doubts_78 : decode cX8_doubts 78 = .ok (.getfield 28, 3) := by decide +kernel
theorem dX8_doubts_81 : decode cX8_doubts 81 = .ok (.iload 12, 2) := by decide +kernel
theorem dX8_doubts_83 : decode cX8_doubts 83 = .ok (.iaload, 1) := by decide +kernel
theorem dX8_doubts_84 : decode cX8_doubts 84 = .ok (.iload 5, 2) := by decide +kernel
theorem dX8_doubts_86 : decode cX8_doubts 86 = .ok (.if_icmp .ne 55, 3) := by decide +kernel
theorem dX8_doubts_89 : decode cX8_doubts 89 = .ok (.aload_n 0, 1) := by decide +kernel
theorem dX8_doubts_90 : decode cX8_doubts 90 = .ok (.getfield 40, 3) := by decide +kernel
theorem dX8_doubts_93 : decode cX8_doubts 93 = .ok (.iload 12, 2) := by decide +kernel
theorem dX8_doubts_95 : decode cX8_doubts 95 = .ok (.baload, 1) := by decide +kernel
theorem dX8_doubts_96 : decode cX8_doubts 96 = .ok (.ifCond .eq 45, 3) := by decide +kernel
theorem dX8_doubts_99 : decode cX8_doubts 99 = .ok (.aload_n 0, 1) := by decide +kernel
theorem dX8_doubts_100 : decode cX8_doubts 100 = .ok (.iload 12, 2) := by decide +kernel
theorem dX8_doubts_102 : decode cX8_doubts 102 = .ok (.iload_n 3, 1) := by decide +kernel
theorem dX8_doubts_103 : decode cX8_doubts 103 = .ok (.invokevirtual 147, 3) := by decide +kernel
theorem dX8_doubts_106 : decode cX8_doubts 106 = .ok (.iconst (-1), 1) := by decide +kernel
theorem dX8_doubts_107 : decode cX8_doubts 107 = .ok (.if_icmp .ne 6, 3) := by decide +kernel
theorem dX8_doubts_110 : decode cX8_doubts 110 = .ok (.goto 31, 3) := by decide +kernel
theorem dX8_doubts_113 : decode cX8_doubts 113 = .ok (.aload_n 0, 1) := by decide +kernel
theorem dX8_doubts_114 : decode cX8_doubts 114 = .ok (.iload 12, 2) := by decide +kernel
theorem dX8_doubts_116 : decode cX8_doubts 116 = .ok (.iload_n 3, 1) := by decide +kernel
theorem dX8_doubts_117 : decode cX8_doubts 117 = .ok (.iload_n 1, 1) := by decide +kernel
theorem dX8_doubts_118 : decode cX8_doubts 118 = .ok (.iload_n 2, 1) := by decide +kernel
theorem dX8_doubts_119 : decode cX8_doubts 119 = .ok (.invokevirtual 163, 3) := by decide +kernel
theorem dX8_doubts_122 : decode cX8_doubts 122 = .ok (.lstore 13, 2) := by decide +kernel
theorem dX8_doubts_124 : decode cX8_doubts 124 = .ok (.lload 8, 2) := by decide +kernel
theorem dX8_doubts_126 : decode cX8_doubts 126 = .ok (.lload 13, 2) := by decide +kernel
theorem dX8_doubts_128 : decode cX8_doubts 128 = .ok (.ladd, 1) := by decide +kernel
theorem dX8_doubts_129 : decode cX8_doubts 129 = .ok (.lstore 8, 2) := by decide +kernel
theorem dX8_doubts_131 : decode cX8_doubts 131 = .ok (.lload 10, 2) := by decide +kernel
theorem dX8_doubts_133 : decode cX8_doubts 133 = .ok (.lload 13, 2) := by decide +kernel
theorem dX8_doubts_135 : decode cX8_doubts 135 = .ok (.lload 13, 2) := by decide +kernel
theorem dX8_doubts_137 : decode cX8_doubts 137 = .ok (.lmul, 1) := by decide +kernel
theorem dX8_doubts_138 : decode cX8_doubts 138 = .ok (.ladd, 1) := by decide +kernel
theorem dX8_doubts_139 : decode cX8_doubts 139 = .ok (.lstore 10, 2) := by decide +kernel
theorem dX8_doubts_141 : decode cX8_doubts 141 = .ok (.iinc 12 1, 3) := by decide +kernel
theorem dX8_doubts_144 : decode cX8_doubts 144 = .ok (.goto (-76), 3) := by decide +kernel
theorem dX8_doubts_147 : decode cX8_doubts 147 = .ok (.aload_n 0, 1) := by decide +kernel
theorem dX8_doubts_148 : decode cX8_doubts 148 = .ok (.getfield 37, 3) := by decide +kernel
theorem dX8_doubts_151 : decode cX8_doubts 151 = .ok (.iload 5, 2) := by decide +kernel
theorem dX8_doubts_153 : decode cX8_doubts 153 = .ok (.iaload, 1) := by decide +kernel
theorem dX8_doubts_154 : decode cX8_doubts 154 = .ok (.i2l, 1) := by decide +kernel
theorem dX8_doubts_155 : decode cX8_doubts 155 = .ok (.lstore 12, 2) := by decide +kernel
theorem dX8_doubts_157 : decode cX8_doubts 157 = .ok (.aload_n 0, 1) := by decide +kernel
theorem dX8_doubts_158 : decode cX8_doubts 158 = .ok (.lload 12, 2) := by decide +kernel
theorem dX8_doubts_160 : decode cX8_doubts 160 = .ok (.lload 12, 2) := by decide +kernel
theorem dX8_doubts_162 : decode cX8_doubts 162 = .ok (.lload 6, 2) := by decide +kernel
theorem dX8_doubts_164 : decode cX8_doubts 164 = .ok (.lsub, 1) := by decide +kernel
theorem dX8_doubts_165 : decode cX8_doubts 165 = .ok (.lmul, 1) := by decide +kernel
theorem dX8_doubts_166 : decode cX8_doubts 166 = .ok (.lload 6, 2) := by decide +kernel
theorem dX8_doubts_168 : decode cX8_doubts 168 = .ok (.lload 10, 2) := by decide +kernel
theorem dX8_doubts_170 : decode cX8_doubts 170 = .ok (.lmul, 1) := by decide +kernel
theorem dX8_doubts_171 : decode cX8_doubts 171 = .ok (.lload 8, 2) := by decide +kernel
theorem dX8_doubts_173 : decode cX8_doubts 173 = .ok (.lload 8, 2) := by decide +kernel
theorem dX8_doubts_175 : decode cX8_doubts 175 = .ok (.lmul, 1) := by decide +kernel
theorem dX8_doubts_176 : decode cX8_doubts 176 = .ok (.lsub, 1) := by decide +kernel
theorem dX8_doubts_177 : decode cX8_doubts 177 = .ok (.lmul, 1) := by decide +kernel
theorem dX8_doubts_178 : decode cX8_doubts 178 = .ok (.lload 6, 2) := by decide +kernel
theorem dX8_doubts_180 : decode cX8_doubts 180 = .ok (.lload 6, 2) := by decide +kernel
theorem dX8_doubts_182 : decode cX8_doubts 182 = .ok (.lmul, 1) := by decide +kernel
theorem dX8_doubts_183 : decode cX8_doubts 183 = .ok (.lload 6, 2) := by decide +kernel
theorem dX8_doubts_185 : decode cX8_doubts 185 = .ok (.lconst 1, 1) := by decide +kernel
theorem dX8_doubts_186 : decode cX8_doubts 186 = .ok (.lsub, 1) := by decide +kernel
theorem dX8_doubts_187 : decode cX8_doubts 187 = .ok (.lmul, 1) := by decide +kernel
theorem dX8_doubts_188 : decode cX8_doubts 188 = .ok (.invokevirtual 167, 3) := by decide +kernel
theorem dX8_doubts_191 : decode cX8_doubts 191 = .ok (.iinc 5 1, 3) := by decide +kernel
theorem dX8_doubts_194 : decode cX8_doubts 194 = .ok (.goto (-178), 3) := by decide +kernel
theorem dX8_doubts_197 : decode cX8_doubts 197 = .ok (.iload 4, 2) := by decide +kernel
theorem dX8_doubts_199 : decode cX8_doubts 199 = .ok (.ireturn, 1) := by decide +kernel
set_option maxRecDepth 20000 in
theorem ggX8_areTwo_X8_isParty : GoodIn wsX8_areTwo wsX8_isParty := goodIn_r _ [5, 6, 10, 11, 12, 13, 14, 15, 16, 17, 18, 19, 20, 21, 22, 23, 24, 25, 26, 27, 28, 29, 30, 31, 32, 33, 34, 35, 36, 37, 38, 39, 40, 41] (by decide +kernel) (by decide +kernel)
set_option maxRecDepth 20000 in
theorem gX8_areTwo_X8_isParty : GoodIn wsX8_areTwo (wsV RX8 173 RX8 yX8_isParty wsX8_isParty) := goodIn_app (goodIn_of _ (by decide +kernel)) ggX8_areTwo_X8_isParty
set_option maxRecDepth 20000 in
theorem ggX8_areTwo_X8_isMinute : GoodIn wsX8_areTwo wsX8_isMinute := goodIn_r _ [9] (by decide +kernel) (by decide +kernel)
set_option maxRecDepth 20000 in
theorem gX8_areTwo_X8_isMinute : GoodIn wsX8_areTwo (va_wsS RX8 129 yX8_isMinute wsX8_isMinute) := goodIn_app (goodIn_of _ (by decide +kernel)) ggX8_areTwo_X8_isMinute
theorem dX8_areTwo_0 : decode cX8_areTwo 0 = .ok (.aload_n 0, 1) := by decide +kernel
theorem dX8_areTwo_1 : decode cX8_areTwo 1 = .ok (.iload_n 1, 1) := by decide +kernel
theorem dX8_areTwo_2 : decode cX8_areTwo 2 = .ok (.invokevirtual 173, 3) := by decide +kernel
theorem dX8_areTwo_5 : decode cX8_areTwo 5 = .ok (.ifCond .eq 32, 3) := by decide +kernel
theorem dX8_areTwo_8 : decode cX8_areTwo 8 = .ok (.iload_n 2, 1) := by decide +kernel
theorem dX8_areTwo_9 : decode cX8_areTwo 9 = .ok (.iconst (-1), 1) := by decide +kernel
theorem dX8_areTwo_10 : decode cX8_areTwo 10 = .ok (.if_icmp .eq 11, 3) := by decide +kernel
theorem dX8_areTwo_13 : decode cX8_areTwo 13 = .ok (.aload_n 0, 1) := by decide +kernel
theorem dX8_areTwo_14 : decode cX8_areTwo 14 = .ok (.iload_n 2, 1) := by decide +kernel
theorem dX8_areTwo_15 : decode cX8_areTwo 15 = .ok (.invokevirtual 173, 3) := by decide +kernel
theorem dX8_areTwo_18 : decode cX8_areTwo 18 = .ok (.ifCond .eq 19, 3) := by decide +kernel
theorem dX8_areTwo_21 : decode cX8_areTwo 21 = .ok (.iload_n 1, 1) := by decide +kernel
theorem dX8_areTwo_22 : decode cX8_areTwo 22 = .ok (.iload_n 2, 1) := by decide +kernel
theorem dX8_areTwo_23 : decode cX8_areTwo 23 = .ok (.if_icmp .eq 14, 3) := by decide +kernel
theorem dX8_areTwo_26 : decode cX8_areTwo 26 = .ok (.iload_n 3, 1) := by decide +kernel
theorem dX8_areTwo_27 : decode cX8_areTwo 27 = .ok (.invokestatic 129, 3) := by decide +kernel
theorem dX8_areTwo_30 : decode cX8_areTwo 30 = .ok (.ifCond .eq 7, 3) := by decide +kernel
theorem dX8_areTwo_33 : decode cX8_areTwo 33 = .ok (.iconst 1, 1) := by decide +kernel
theorem dX8_areTwo_34 : decode cX8_areTwo 34 = .ok (.goto 4, 3) := by decide +kernel
theorem dX8_areTwo_37 : decode cX8_areTwo 37 = .ok (.iconst 0, 1) := by decide +kernel
theorem dX8_areTwo_38 : decode cX8_areTwo 38 = .ok (.ireturn, 1) := by decide +kernel
set_option maxRecDepth 20000 in
theorem ggX8_sum_X8_areTwo : GoodIn wsX8_sum wsX8_areTwo := goodIn_r _ [7, 8, 9, 10, 6, 11, 12, 13, 14, 15, 64, 65, 66, 67, 68, 69, 70, 71, 72, 73, 74, 75, 76, 77, 78, 79, 80, 81, 82, 83, 84, 85, 86, 87, 88, 89, 90, 91, 92, 93, 94, 95] (by decide +kernel) (by decide +kernel)
set_option maxRecDepth 20000 in
theorem gX8_sum_X8_areTwo : GoodIn wsX8_sum (wsV RX8 176 RX8 yX8_areTwo wsX8_areTwo) := goodIn_app (goodIn_of _ (by decide +kernel)) ggX8_sum_X8_areTwo
set_option maxRecDepth 20000 in
theorem ggX8_sum_X8_refuse : GoodIn wsX8_sum wsX8_refuse := goodIn_r _ [19, 20, 64, 65, 66, 67, 68, 69, 70, 71, 72, 73, 74, 75, 76, 77, 78, 79, 80, 81, 82, 83, 84, 85, 86, 87, 88, 89, 90, 91, 92, 93, 94, 95] (by decide +kernel) (by decide +kernel)
set_option maxRecDepth 20000 in
theorem gX8_sum_X8_refuse : GoodIn wsX8_sum (wsV RX8 110 RX8 yX8_refuse wsX8_refuse) := goodIn_app (goodIn_of _ (by decide +kernel)) ggX8_sum_X8_refuse
set_option maxRecDepth 20000 in
theorem ggX8_sum_X8_sums : GoodIn wsX8_sum wsX8_sums := goodIn_r _ [24, 1, 2, 25, 26, 27, 28, 29, 30, 31, 32, 6, 33, 34, 35, 36, 37, 38, 39, 40, 41, 42, 43, 44, 12, 45, 46, 47, 48, 49, 50, 51, 52, 53, 54, 55, 56, 57, 64, 65, 66, 67, 68, 69, 70, 71, 72, 73, 74, 75, 76, 77, 78, 79, 80, 81, 82, 83, 84, 85, 86, 87, 88, 89, 90, 91, 92, 93, 94, 95] (by decide +kernel) (by decide +kernel)
set_option maxRecDepth 20000 in
theorem gX8_sum_X8_sums : GoodIn wsX8_sum (wsV RX8 180 RX8 yX8_sums wsX8_sums) := goodIn_app (goodIn_of _ (by decide +kernel)) ggX8_sum_X8_sums
set_option maxRecDepth 20000 in
theorem ggX8_sum_X8_fraction : GoodIn wsX8_sum wsX8_fraction := goodIn_r _ [61, 62, 63, 20, 64, 65, 66, 67, 68, 69, 70, 71, 72, 73, 74, 75, 76, 77, 78, 79, 80, 81, 82, 83, 84, 85, 86, 87, 88, 89, 90, 91, 92, 93, 94, 95] (by decide +kernel) (by decide +kernel)
set_option maxRecDepth 20000 in
theorem gX8_sum_X8_fraction : GoodIn wsX8_sum (wsV RX8 125 RX8 yX8_fraction wsX8_fraction) := goodIn_app (goodIn_of _ (by decide +kernel)) ggX8_sum_X8_fraction
theorem dX8_sum_0 : decode cX8_sum 0 = .ok (.aload_n 0, 1) := by decide +kernel
theorem dX8_sum_1 : decode cX8_sum 1 = .ok (.iload_n 1, 1) := by decide +kernel
theorem dX8_sum_2 : decode cX8_sum 2 = .ok (.iload_n 2, 1) := by decide +kernel
theorem dX8_sum_3 : decode cX8_sum 3 = .ok (.iload_n 3, 1) := by decide +kernel
theorem dX8_sum_4 : decode cX8_sum 4 = .ok (.invokevirtual 176, 3) := by decide +kernel
theorem dX8_sum_7 : decode cX8_sum 7 = .ok (.ifCond .ne 9, 3) := by decide +kernel
theorem dX8_sum_10 : decode cX8_sum 10 = .ok (.aload_n 0, 1) := by decide +kernel
theorem dX8_sum_11 : decode cX8_sum 11 = .ok (.iconst 1, 1) := by decide +kernel
theorem dX8_sum_12 : decode cX8_sum 12 = .ok (.invokevirtual 110, 3) := by decide +kernel
theorem dX8_sum_15 : decode cX8_sum 15 = .ok (.ireturn, 1) := by decide +kernel
theorem dX8_sum_16 : decode cX8_sum 16 = .ok (.aload_n 0, 1) := by decide +kernel
theorem dX8_sum_17 : decode cX8_sum 17 = .ok (.iload_n 1, 1) := by decide +kernel
theorem dX8_sum_18 : decode cX8_sum 18 = .ok (.iload_n 2, 1) := by decide +kernel
theorem dX8_sum_19 : decode cX8_sum 19 = .ok (.iload_n 3, 1) := by decide +kernel
theorem dX8_sum_20 : decode cX8_sum 20 = .ok (.invokevirtual 180, 3) := by decide +kernel
theorem dX8_sum_23 : decode cX8_sum 23 = .ok (.ifCond .eq 18, 3) := by decide +kernel
theorem dX8_sum_26 : decode cX8_sum 26 = .ok (.aload_n 0, 1) := by decide +kernel
theorem dX8_sum_27 : decode cX8_sum 27 = .ok (.aload_n 0, 1) := by decide +kernel
theorem dX8_sum_28 : decode cX8_sum 28 = .ok (.getfield 160, 3) := by decide +kernel
theorem dX8_sum_31 : decode cX8_sum 31 = .ok (.aload_n 0, 1) := by decide +kernel
theorem dX8_sum_32 : decode cX8_sum 32 = .ok (.getfield 157, 3) := by decide +kernel
theorem dX8_sum_35 : decode cX8_sum 35 = .ok (.invokevirtual 125, 3) := by decide +kernel
theorem dX8_sum_38 : decode cX8_sum 38 = .ok (.goto 8, 3) := by decide +kernel
theorem dX8_sum_41 : decode cX8_sum 41 = .ok (.aload_n 0, 1) := by decide +kernel
theorem dX8_sum_42 : decode cX8_sum 42 = .ok (.iconst 5, 1) := by decide +kernel
theorem dX8_sum_43 : decode cX8_sum 43 = .ok (.invokevirtual 110, 3) := by decide +kernel
theorem dX8_sum_46 : decode cX8_sum 46 = .ok (.ireturn, 1) := by decide +kernel
set_option maxRecDepth 20000 in
theorem ggX8_doubt_X8_areTwo : GoodIn wsX8_doubt wsX8_areTwo := goodIn_r _ [7, 8, 9, 10, 6, 11, 12, 13, 14, 15, 65, 66, 67, 68, 69, 70, 71, 72, 73, 74, 75, 76, 77, 78, 79, 80, 81, 82, 83, 84, 85, 86, 87, 88, 89, 90, 91, 92, 93, 94, 95, 96] (by decide +kernel) (by decide +kernel)
set_option maxRecDepth 20000 in
theorem gX8_doubt_X8_areTwo : GoodIn wsX8_doubt (wsV RX8 176 RX8 yX8_areTwo wsX8_areTwo) := goodIn_app (goodIn_of _ (by decide +kernel)) ggX8_doubt_X8_areTwo
set_option maxRecDepth 20000 in
theorem ggX8_doubt_X8_refuse : GoodIn wsX8_doubt wsX8_refuse := goodIn_r _ [19, 20, 65, 66, 67, 68, 69, 70, 71, 72, 73, 74, 75, 76, 77, 78, 79, 80, 81, 82, 83, 84, 85, 86, 87, 88, 89, 90, 91, 92, 93, 94, 95, 96] (by decide +kernel) (by decide +kernel)
set_option maxRecDepth 20000 in
theorem gX8_doubt_X8_refuse : GoodIn wsX8_doubt (wsV RX8 110 RX8 yX8_refuse wsX8_refuse) := goodIn_app (goodIn_of _ (by decide +kernel)) ggX8_doubt_X8_refuse
set_option maxRecDepth 20000 in
theorem ggX8_doubt_X8_doubts : GoodIn wsX8_doubt wsX8_doubts := goodIn_r _ [24, 1, 2, 25, 26, 27, 28, 29, 30, 31, 32, 33, 6, 34, 35, 36, 37, 38, 39, 40, 41, 42, 43, 44, 45, 12, 46, 47, 48, 49, 50, 51, 52, 53, 54, 55, 56, 57, 58, 65, 66, 67, 68, 69, 70, 71, 72, 73, 74, 75, 76, 77, 78, 79, 80, 81, 82, 83, 84, 85, 86, 87, 88, 89, 90, 91, 92, 93, 94, 95, 96] (by decide +kernel) (by decide +kernel)
set_option maxRecDepth 20000 in
theorem gX8_doubt_X8_doubts : GoodIn wsX8_doubt (wsV RX8 183 RX8 yX8_doubts wsX8_doubts) := goodIn_app (goodIn_of _ (by decide +kernel)) ggX8_doubt_X8_doubts
set_option maxRecDepth 20000 in
theorem ggX8_doubt_X8_fraction : GoodIn wsX8_doubt wsX8_fraction := goodIn_r _ [62, 63, 64, 20, 65, 66, 67, 68, 69, 70, 71, 72, 73, 74, 75, 76, 77, 78, 79, 80, 81, 82, 83, 84, 85, 86, 87, 88, 89, 90, 91, 92, 93, 94, 95, 96] (by decide +kernel) (by decide +kernel)
set_option maxRecDepth 20000 in
theorem gX8_doubt_X8_fraction : GoodIn wsX8_doubt (wsV RX8 125 RX8 yX8_fraction wsX8_fraction) := goodIn_app (goodIn_of _ (by decide +kernel)) ggX8_doubt_X8_fraction
theorem dX8_doubt_0 : decode cX8_doubt 0 = .ok (.aload_n 0, 1) := by decide +kernel
theorem dX8_doubt_1 : decode cX8_doubt 1 = .ok (.iload_n 1, 1) := by decide +kernel
theorem dX8_doubt_2 : decode cX8_doubt 2 = .ok (.iload_n 2, 1) := by decide +kernel
theorem dX8_doubt_3 : decode cX8_doubt 3 = .ok (.iload_n 3, 1) := by decide +kernel
theorem dX8_doubt_4 : decode cX8_doubt 4 = .ok (.invokevirtual 176, 3) := by decide +kernel
theorem dX8_doubt_7 : decode cX8_doubt 7 = .ok (.ifCond .ne 9, 3) := by decide +kernel
theorem dX8_doubt_10 : decode cX8_doubt 10 = .ok (.aload_n 0, 1) := by decide +kernel
theorem dX8_doubt_11 : decode cX8_doubt 11 = .ok (.iconst 1, 1) := by decide +kernel
theorem dX8_doubt_12 : decode cX8_doubt 12 = .ok (.invokevirtual 110, 3) := by decide +kernel
theorem dX8_doubt_15 : decode cX8_doubt 15 = .ok (.ireturn, 1) := by decide +kernel
theorem dX8_doubt_16 : decode cX8_doubt 16 = .ok (.aload_n 0, 1) := by decide +kernel
theorem dX8_doubt_17 : decode cX8_doubt 17 = .ok (.iload_n 1, 1) := by decide +kernel
theorem dX8_doubt_18 : decode cX8_doubt 18 = .ok (.iload_n 2, 1) := by decide +kernel
theorem dX8_doubt_19 : decode cX8_doubt 19 = .ok (.iload_n 3, 1) := by decide +kernel
theorem dX8_doubt_20 : decode cX8_doubt 20 = .ok (.invokevirtual 183, 3) := by decide +kernel
theorem dX8_doubt_23 : decode cX8_doubt 23 = .ok (.ifCond .eq 18, 3) := by decide +kernel
theorem dX8_doubt_26 : decode cX8_doubt 26 = .ok (.aload_n 0, 1) := by decide +kernel
theorem dX8_doubt_27 : decode cX8_doubt 27 = .ok (.aload_n 0, 1) := by decide +kernel
theorem dX8_doubt_28 : decode cX8_doubt 28 = .ok (.getfield 160, 3) := by decide +kernel
theorem dX8_doubt_31 : decode cX8_doubt 31 = .ok (.aload_n 0, 1) := by decide +kernel
theorem dX8_doubt_32 : decode cX8_doubt 32 = .ok (.getfield 157, 3) := by decide +kernel
theorem dX8_doubt_35 : decode cX8_doubt 35 = .ok (.invokevirtual 125, 3) := by decide +kernel
theorem dX8_doubt_38 : decode cX8_doubt 38 = .ok (.goto 8, 3) := by decide +kernel
theorem dX8_doubt_41 : decode cX8_doubt 41 = .ok (.aload_n 0, 1) := by decide +kernel
theorem dX8_doubt_42 : decode cX8_doubt 42 = .ok (.iconst 5, 1) := by decide +kernel
theorem dX8_doubt_43 : decode cX8_doubt 43 = .ok (.invokevirtual 110, 3) := by decide +kernel
theorem dX8_doubt_46 : decode cX8_doubt 46 = .ok (.ireturn, 1) := by decide +kernel
set_option maxRecDepth 20000 in
theorem ggX8_margin_X8_areTwo : GoodIn wsX8_margin wsX8_areTwo := goodIn_r _ [10, 11, 12, 13, 9, 14, 15, 16, 17, 18, 61, 62, 63, 64, 65, 66, 67, 68, 69, 70, 71, 72, 73, 74, 75, 76, 77, 78, 79, 80, 81, 82, 83, 84, 85, 86, 87, 88, 89, 90, 91, 92] (by decide +kernel) (by decide +kernel)
set_option maxRecDepth 20000 in
theorem gX8_margin_X8_areTwo : GoodIn wsX8_margin (wsV RX8 176 RX8 yX8_areTwo wsX8_areTwo) := goodIn_app (goodIn_of _ (by decide +kernel)) ggX8_margin_X8_areTwo
set_option maxRecDepth 20000 in
theorem ggX8_margin_X8_refuse : GoodIn wsX8_margin wsX8_refuse := goodIn_r _ [22, 1, 61, 62, 63, 64, 65, 66, 67, 68, 69, 70, 71, 72, 73, 74, 75, 76, 77, 78, 79, 80, 81, 82, 83, 84, 85, 86, 87, 88, 89, 90, 91, 92] (by decide +kernel) (by decide +kernel)
set_option maxRecDepth 20000 in
theorem gX8_margin_X8_refuse : GoodIn wsX8_margin (wsV RX8 110 RX8 yX8_refuse wsX8_refuse) := goodIn_app (goodIn_of _ (by decide +kernel)) ggX8_margin_X8_refuse
set_option maxRecDepth 20000 in
theorem ggX8_margin_X8_doubts : GoodIn wsX8_margin wsX8_doubts := goodIn_r _ [26, 2, 4, 27, 28, 29, 30, 31, 32, 33, 34, 35, 9, 36, 37, 38, 39, 40, 41, 42, 43, 44, 45, 46, 47, 15, 48, 49, 50, 51, 52, 53, 54, 55, 56, 57, 58, 59, 60, 61, 62, 63, 64, 65, 66, 67, 68, 69, 70, 71, 72, 73, 74, 75, 76, 77, 78, 79, 80, 81, 82, 83, 84, 85, 86, 87, 88, 89, 90, 91, 92] (by decide +kernel) (by decide +kernel)
set_option maxRecDepth 20000 in
theorem gX8_margin_X8_doubts : GoodIn wsX8_margin (wsV RX8 183 RX8 yX8_doubts wsX8_doubts) := goodIn_app (goodIn_of _ (by decide +kernel)) ggX8_margin_X8_doubts
theorem dX8_margin_0 : decode cX8_margin 0 = .ok (.aload_n 0, 1) := by decide +kernel
theorem dX8_margin_1 : decode cX8_margin 1 = .ok (.iload_n 1, 1) := by decide +kernel
theorem dX8_margin_2 : decode cX8_margin 2 = .ok (.iload_n 2, 1) := by decide +kernel
theorem dX8_margin_3 : decode cX8_margin 3 = .ok (.iload_n 3, 1) := by decide +kernel
theorem dX8_margin_4 : decode cX8_margin 4 = .ok (.invokevirtual 176, 3) := by decide +kernel
theorem dX8_margin_7 : decode cX8_margin 7 = .ok (.ifCond .ne 9, 3) := by decide +kernel
theorem dX8_margin_10 : decode cX8_margin 10 = .ok (.aload_n 0, 1) := by decide +kernel
theorem dX8_margin_11 : decode cX8_margin 11 = .ok (.iconst 1, 1) := by decide +kernel
theorem dX8_margin_12 : decode cX8_margin 12 = .ok (.invokevirtual 110, 3) := by decide +kernel
theorem dX8_margin_15 : decode cX8_margin 15 = .ok (.ireturn, 1) := by decide +kernel
theorem dX8_margin_16 : decode cX8_margin 16 = .ok (.aload_n 0, 1) := by decide +kernel
theorem dX8_margin_17 : decode cX8_margin 17 = .ok (.iload_n 1, 1) := by decide +kernel
theorem dX8_margin_18 : decode cX8_margin 18 = .ok (.iload_n 2, 1) := by decide +kernel
theorem dX8_margin_19 : decode cX8_margin 19 = .ok (.iload_n 3, 1) := by decide +kernel
theorem dX8_margin_20 : decode cX8_margin 20 = .ok (.invokevirtual 183, 3) := by decide +kernel
theorem dX8_margin_23 : decode cX8_margin 23 = .ok (.ifCond .ne 9, 3) := by decide +kernel
theorem dX8_margin_26 : decode cX8_margin 26 = .ok (.aload_n 0, 1) := by decide +kernel
theorem dX8_margin_27 : decode cX8_margin 27 = .ok (.iconst 5, 1) := by decide +kernel
theorem dX8_margin_28 : decode cX8_margin 28 = .ok (.invokevirtual 110, 3) := by decide +kernel
theorem dX8_margin_31 : decode cX8_margin 31 = .ok (.ireturn, 1) := by decide +kernel
theorem dX8_margin_32 : decode cX8_margin 32 = .ok (.aload_n 0, 1) := by decide +kernel
theorem dX8_margin_33 : decode cX8_margin 33 = .ok (.iconst 0, 1) := by decide +kernel
theorem dX8_margin_34 : decode cX8_margin 34 = .ok (.putfield 74, 3) := by decide +kernel
theorem dX8_margin_37 : decode cX8_margin 37 = .ok (.aload_n 0, 1) := by decide +kernel
theorem dX8_margin_38 : decode cX8_margin 38 = .ok (.getfield 160, 3) := by decide +kernel
theorem dX8_margin_41 : decode cX8_margin 41 = .ok (.ldc2_w 186, 3) := by decide +kernel
theorem dX8_margin_44 : decode cX8_margin 44 = .ok (.lmul, 1) := by decide +kernel
theorem dX8_margin_45 : decode cX8_margin 45 = .ok (.aload_n 0, 1) := by decide +kernel
theorem dX8_margin_46 : decode cX8_margin 46 = .ok (.getfield 157, 3) := by decide +kernel
theorem dX8_margin_49 : decode cX8_margin 49 = .ok (.ldiv, 1) := by decide +kernel
theorem dX8_margin_50 : decode cX8_margin 50 = .ok (.aload_n 0, 1) := by decide +kernel
theorem dX8_margin_51 : decode cX8_margin 51 = .ok (.getfield 160, 3) := by decide +kernel
theorem dX8_margin_54 : decode cX8_margin 54 = .ok (.ldc2_w 186, 3) := by decide +kernel
theorem dX8_margin_57 : decode cX8_margin 57 = .ok (.lmul, 1) := by decide +kernel
theorem dX8_margin_58 : decode cX8_margin 58 = .ok (.aload_n 0, 1) := by decide +kernel
theorem dX8_margin_59 : decode cX8_margin 59 = .ok (.getfield 157, 3) := by decide +kernel
theorem dX8_margin_62 : decode cX8_margin 62 = .ok (.lrem, 1) := by decide +kernel
theorem dX8_margin_63 : decode cX8_margin 63 = .ok (.lconst 0, 1) := by decide +kernel
theorem dX8_margin_64 : decode cX8_margin 64 = .ok (.lcmp, 1) := by decide +kernel
theorem dX8_margin_65 : decode cX8_margin 65 = .ok (.ifCond .le 7, 3) := by decide +kernel
theorem dX8_margin_68 : decode cX8_margin 68 = .ok (.lconst 1, 1) := by decide +kernel
theorem dX8_margin_69 : decode cX8_margin 69 = .ok (.goto 4, 3) := by decide +kernel
theorem dX8_margin_72 : decode cX8_margin 72 = .ok (.lconst 0, 1) := by decide +kernel
theorem dX8_margin_73 : decode cX8_margin 73 = .ok (.ladd, 1) := by decide +kernel
theorem dX8_margin_74 : decode cX8_margin 74 = .ok (.lstore 4, 2) := by decide +kernel
theorem dX8_margin_76 : decode cX8_margin 76 = .ok (.lconst 0, 1) := by decide +kernel
theorem dX8_margin_77 : decode cX8_margin 77 = .ok (.lstore 6, 2) := by decide +kernel
theorem dX8_margin_79 : decode cX8_margin 79 = .ok (.ldc2_w 188, 3) := by decide +kernel
theorem dX8_margin_82 : decode cX8_margin 82 = .ok (.lstore 8, 2) := by decide +kernel
theorem dX8_margin_84 : decode cX8_margin 84 = .ok (.lload 8, 2) := by decide +kernel
theorem dX8_margin_86 : decode cX8_margin 86 = .ok (.lconst 0, 1) := by decide +kernel
theorem dX8_margin_87 : decode cX8_margin 87 = .ok (.lcmp, 1) := by decide +kernel
theorem dX8_margin_88 : decode cX8_margin 88 = .ok (.ifCond .le 40, 3) := by decide +kernel
theorem dX8_margin_91 : decode cX8_margin 91 = .ok (.lload 6, 2) := by decide +kernel
theorem dX8_margin_93 : decode cX8_margin 93 = .ok (.lload 8, 2) := by decide +kernel
theorem dX8_margin_95 : decode cX8_margin 95 = .ok (.ladd, 1) := by decide +kernel
theorem dX8_margin_96 : decode cX8_margin 96 = .ok (.lconst 1, 1) := by decide +kernel
theorem dX8_margin_97 : decode cX8_margin 97 = .ok (.lsub, 1) := by decide +kernel
theorem dX8_margin_98 : decode cX8_margin 98 = .ok (.lload 6, 2) := by decide +kernel
theorem dX8_margin_100 : decode cX8_margin 100 = .ok (.lload 8, 2) := by decide +kernel
theorem dX8_margin_102 : decode cX8_margin 102 = .ok (.ladd, 1) := by decide +kernel
theorem dX8_margin_103 : decode cX8_margin 103 = .ok (.lconst 1, 1) := by decide +kernel
theorem dX8_margin_104 : decode cX8_margin 104 = .ok (.lsub, 1) := by decide +kernel
theorem dX8_margin_105 : decode cX8_margin 105 = .ok (.lmul, 1) := by decide +kernel
theorem dX8_margin_106 : decode cX8_margin 106 = .ok (.lload 4, 2) := by decide +kernel
theorem dX8_margin_108 : decode cX8_margin 108 = .ok (.lcmp, 1) := by decide +kernel
theorem dX8_margin_109 : decode cX8_margin 109 = .ok (.ifCond .ge 10, 3) := by decide +kernel
theorem dX8_margin_112 : decode cX8_margin 112 = .ok (.lload 6, 2) := by decide +kernel
theorem dX8_margin_114 : decode cX8_margin 114 = .ok (.lload 8, 2) := by decide +kernel
theorem dX8_margin_116 : decode cX8_margin 116 = .ok (.ladd, 1) := by decide +kernel
theorem dX8_margin_117 : decode cX8_margin 117 = .ok (.lstore 6, 2) := by decide +kernel
theorem dX8_margin_119 : decode cX8_margin 119 = .ok (.lload 8, 2) := by decide +kernel
theorem dX8_margin_121 : decode cX8_margin 121 = .ok (.iconst 1, 1) := by decide +kernel
theorem dX8_margin_122 : decode cX8_margin 122 = .ok (.lshr, 1) := by decide +kernel
theorem dX8_margin_123 : decode cX8_margin 123 = .ok (.lstore 8, 2) := by decide +kernel
theorem dX8_margin_125 : decode cX8_margin 125 = .ok (.goto (-41), 3) := by decide +kernel
theorem dX8_margin_128 : decode cX8_margin 128 = .ok (.lload 6, 2) := by decide +kernel
theorem dX8_margin_130 : decode cX8_margin 130 = .ok (.l2i, 1) := by decide +kernel
theorem dX8_margin_131 : decode cX8_margin 131 = .ok (.ireturn, 1) := by decide +kernel
set_option maxRecDepth 20000 in
theorem ggX8_worsts_X8_knownOf : GoodIn wsX8_worsts wsX8_knownOf := goodIn_r _ [14, 15, 16, 17, 18, 19, 20, 13, 21, 22, 23, 7, 35, 36, 37, 38, 39, 40, 41, 42, 43, 44, 45, 46, 47, 48, 49, 50, 51, 52, 53, 54, 55, 56, 57, 58, 59, 60, 61, 62, 63, 64, 65, 66] (by decide +kernel) (by decide +kernel)
set_option maxRecDepth 20000 in
theorem gX8_worsts_X8_knownOf : GoodIn wsX8_worsts (wsV RX8 147 RX8 yX8_knownOf wsX8_knownOf) := goodIn_app (goodIn_of _ (by decide +kernel)) ggX8_worsts_X8_knownOf
set_option maxRecDepth 20000 in
theorem ggX8_worsts_X8_has : GoodIn wsX8_worsts wsX8_has := goodIn_r _ [27, 23, 10, 11, 12, 13, 14, 15, 16, 17, 18, 19, 20, 21, 22, 7, 35, 36, 37, 38, 39, 40, 41, 42, 43, 44, 45, 46, 47, 48, 49, 50, 51, 52, 53, 54, 55, 56, 57, 58, 59, 60, 61, 62, 63, 64, 65, 66] (by decide +kernel) (by decide +kernel)
set_option maxRecDepth 20000 in
theorem gX8_worsts_X8_has : GoodIn wsX8_worsts (wsV RX8 163 RX8 yX8_has wsX8_has) := goodIn_app (goodIn_of _ (by decide +kernel)) ggX8_worsts_X8_has
set_option maxRecDepth 20000 in
theorem ggX8_worsts_X8_add : GoodIn wsX8_worsts wsX8_add := goodIn_r _ [31, 2, 1, 32, 33, 13, 34, 35, 36, 37, 38, 39, 40, 41, 42, 43, 44, 45, 46, 47, 48, 49, 50, 51, 52, 53, 54, 55, 56, 57, 58, 59, 60, 61, 62, 63, 64, 65, 66] (by decide +kernel) (by decide +kernel)
set_option maxRecDepth 20000 in
theorem gX8_worsts_X8_add : GoodIn wsX8_worsts (wsV RX8 167 RX8 yX8_add wsX8_add) := goodIn_app (goodIn_of _ (by decide +kernel)) ggX8_worsts_X8_add
theorem dX8_worsts_0 : decode cX8_worsts 0 = .ok (.aload_n 0, 1) := by decide +kernel
theorem dX8_worsts_1 : decode cX8_worsts 1 = .ok (.lconst 0, 1) := by decide +kernel
theorem dX8_worsts_2 : decode cX8_worsts 2 = .ok (.putfield 160, 3) := by decide +kernel
theorem dX8_worsts_5 : decode cX8_worsts 5 = .ok (.aload_n 0, 1) := by decide +kernel
theorem dX8_worsts_6 : decode cX8_worsts 6 = .ok (.lconst 1, 1) := by decide +kernel
theorem dX8_worsts_7 : decode cX8_worsts 7 = .ok (.putfield 157, 3) := by decide +kernel
theorem dX8_worsts_10 : decode cX8_worsts 10 = .ok (.iconst 0, 1) := by decide +kernel
theorem dX8_worsts_11 : decode cX8_worsts 11 = .ok (.istore 4, 2) := by decide +kernel
theorem dX8_worsts_13 : decode cX8_worsts 13 = .ok (.iconst 0, 1) := by decide +kernel
theorem dX8_worsts_14 : decode cX8_worsts 14 = .ok (.istore 5, 2) := by decide +kernel
theorem dX8_worsts_16 : decode cX8_worsts 16 = .ok (.iload 5, 2) := by decide +kernel
theorem dX8_worsts_18 : decode cX8_worsts 18 = .ok (.iconst 4, 1) := by decide +kernel
theorem dX8_worsts_19 : decode cX8_worsts 19 = .ok (.if_icmp .ge 138, 3) := by decide +kernel
theorem dX8_worsts_22 : decode cX8_worsts 22 = .ok (.aload_n 0, 1) := by decide +kernel
theorem dX8_worsts_23 : decode cX8_worsts 23 = .ok (.getfield 47, 3) := by decide +kernel
theorem dX8_worsts_26 : decode cX8_worsts 26 = .ok (.iload 5, 2) := by decide +kernel
theorem dX8_worsts_28 : decode cX8_worsts 28 = .ok (.baload, 1) := by decide +kernel
theorem dX8_worsts_29 : decode cX8_worsts 29 = .ok (.ifCond .ne 6, 3) := by decide +kernel
theorem dX8_worsts_32 : decode cX8_worsts 32 = .ok (.goto 119, 3) := by decide +kernel
theorem dX8_worsts_35 : decode cX8_worsts 35 = .ok (.iconst 1, 1) := by decide +kernel
theorem dX8_worsts_36 : decode cX8_worsts 36 = .ok (.istore 4, 2) := by decide +kernel
theorem dX8_worsts_38 : decode cX8_worsts 38 = .ok (.lconst 0, 1) := by decide +kernel
theorem dX8_worsts_39 : decode cX8_worsts 39 = .ok (.lstore 6, 2) := by decide +kernel
theorem dX8_worsts_41 : decode cX8_worsts 41 = .ok (.iconst 0, 1) := by decide +kernel
theorem dX8_worsts_42 : decode cX8_worsts 42 = .ok (.istore 8, 2) := by decide +kernel
theorem dX8_worsts_44 : decode cX8_worsts 44 = .ok (.iload 8, 2) := by decide +kernel
theorem dX8_worsts_46 : decode cX8_worsts 46 = .ok (.aload_n 0, 1) := by decide +kernel
theorem dX8_worsts_47 : decode cX8_worsts 47 = .ok (.getfield 97, 3) := by decide +kernel
theorem dX8_worsts_50 : decode cX8_worsts 50 = .ok (.if_icmp .ge 78, 3) := by decide +kernel
theorem dX8_worsts_53 : decode cX8_worsts 53 = .ok (.aload_n 0, 1) := by decide +kernel
theorem dX8_worsts_54 : decode cX8_worsts 54 = .ok (.getfield 28, 3) := by decide +kernel
theorem dX8_worsts_57 : decode cX8_worsts 57 = .ok (.iload 8, 2) := by decide +kernel
theorem dX8_worsts_59 : decode cX8_worsts 59 = .ok (.iaload, 1) := by decide +kernel
theorem dX8_worsts_60 : decode cX8_worsts 60 = .ok (.iload 5, 2) := by decide +kernel
theorem dX8_worsts_62 : decode cX8_worsts 62 = .ok (.if_icmp .ne 60, 3) := by decide +kernel
theorem dX8_worsts_65 : decode cX8_worsts 65 = .ok (.aload_n 0, 1) := by decide +kernel
theorem dX8_worsts_66 : decode cX8_worsts 66 = .ok (.getfield 40, 3) := by decide +kernel
theorem dX8_worsts_69 : decode cX8_worsts 69 = .ok (.iload 8, 2) := by decide +kernel
theorem dX8_worsts_71 : decode cX8_worsts 71 = .ok (.baload, 1) := by decide +kernel
theorem dX8_worsts_72 : decode cX8_worsts 72 = .ok (.ifCond .ne 6, 3) := by decide +kernel
theorem dX8_worsts_75 : decode cX8_worsts 75 = .ok (.goto 47, 3) := by decide +kernel
theorem dX8_worsts_78 : decode cX8_worsts 78 = .ok (.lload 6, 2) := by decide +kernel
theorem dX8_worsts_80 : decode cX8_worsts 80 = .ok (.aload_n 0, 1) := by decide +kernel
theorem dX8_worsts_81 : decode cX8_worsts 81 = .ok (.iload 8, 2) := by decide +kernel
theorem dX8_worsts_83 : decode cX8_worsts 83 = .ok (.iload_n 2, 1) := by decide +kernel
theorem dX8_worsts_84 : decode cX8_worsts 84 = .ok (.invokevirtual 147, 3) := by decide +kernel
theorem dX8_worsts_87 : decode cX8_worsts 87 = .ok (.iconst (-1), 1) := by decide +kernel
theorem dX8_worsts_88 : decode cX8_worsts 88 = .ok (.if_icmp .eq 15, 3) := by decide +kernel
theorem dX8_worsts_91 : decode cX8_worsts 91 = .ok (.aload_n 0, 1) := by decide +kernel
theorem dX8_worsts_92 : decode cX8_worsts 92 = .ok (.iload 8, 2) := by decide +kernel
theorem dX8_worsts_94 : decode cX8_worsts 94 = .ok (.iload_n 2, 1) := by decide +kernel
theorem dX8_worsts_95 : decode cX8_worsts 95 = .ok (.iload_n 1, 1) := by decide +kernel
theorem dX8_worsts_96 : decode cX8_worsts 96 = .ok (.iconst (-1), 1) := by decide +kernel
theorem dX8_worsts_97 : decode cX8_worsts 97 = .ok (.invokevirtual 163, 3) := by decide +kernel
theorem dX8_worsts_100 : decode cX8_worsts 100 = .ok (.goto 19, 3) := by decide +kernel
theorem dX8_worsts_103 : decode cX8_worsts 103 = .ok (.iload_n 3, 1) := by decide +kernel
theorem dX8_worsts_104 : decode cX8_worsts 104 = .ok (.ifCond .eq 14, 3) := by decide +kernel
theorem dX8_worsts_107 : decode cX8_worsts 107 = .ok (.aload_n 0, 1) := by decide +kernel
theorem dX8_worsts_108 : decode cX8_worsts 108 = .ok (.getfield 31, 3) := by decide +kernel
theorem dX8_worsts_111 : decode cX8_worsts 111 = .ok (.iload 8, 2) := by decide +kernel
theorem dX8_worsts_113 : decode cX8_worsts 113 = .ok (.iaload, 1) := by decide +kernel
theorem dX8_worsts_114 : decode cX8_worsts 114 = .ok (.i2l, 1) := by decide +kernel
theorem dX8_worsts_115 : decode cX8_worsts 115 = .ok (.goto 4, 3) := by decide +kernel
theorem dX8_worsts_118 : decode cX8_worsts 118 = .ok (.lconst 0, 1) := by decide +kernel
theorem dX8_worsts_119 : decode cX8_worsts 119 = .ok (.ladd, 1) := by decide +kernel
theorem dX8_worsts_120 : decode cX8_worsts 120 = .ok (.lstore 6, 2) := by decide +kernel
theorem dX8_worsts_122 : decode cX8_worsts 122 = .ok (.iinc 8 1, 3) := by decide +kernel
theorem dX8_worsts_125 : decode cX8_worsts 125 = .ok (.goto (-81), 3) := by decide +kernel
theorem dX8_worsts_128 : decode cX8_worsts 128 = .ok (.aload_n 0, 1) := by decide +kernel
theorem dX8_worsts_129 : decode cX8_worsts 129 = .ok (.aload_n 0, 1) := by decide +kernel
theorem dX8_worsts_130 : decode cX8_worsts 130 = .ok (.getfield 37, 3) := by decide +kernel
theorem dX8_worsts_133 : decode cX8_worsts 133 = .ok (.iload 5, 2) := by decide +kernel
theorem dX8_worsts_135 : decode cX8_worsts 135 = .ok (.iaload, 1) := by decide +kernel
theorem dX8_worsts_136 : decode cX8_worsts 136 = .ok (.i2l, 1) := by decide +kernel
theorem dX8_worsts_137 : decode cX8_worsts 137 = .ok (.lload 6, 2) := by decide +kernel
theorem dX8_worsts_139 : decode cX8_worsts 139 = .ok (.lmul, 1) := by decide +kernel
theorem dX8_worsts_140 : decode cX8_worsts 140 = .ok (.aload_n 0, 1) := by decide +kernel
theorem dX8_worsts_141 : decode cX8_worsts 141 = .ok (.getfield 34, 3) := by decide +kernel
theorem dX8_worsts_144 : decode cX8_worsts 144 = .ok (.iload 5, 2) := by decide +kernel
theorem dX8_worsts_146 : decode cX8_worsts 146 = .ok (.iaload, 1) := by decide +kernel
theorem dX8_worsts_147 : decode cX8_worsts 147 = .ok (.i2l, 1) := by decide +kernel
theorem dX8_worsts_148 : decode cX8_worsts 148 = .ok (.invokevirtual 167, 3) := by decide +kernel
theorem dX8_worsts_151 : decode cX8_worsts 151 = .ok (.iinc 5 1, 3) := by decide +kernel
theorem dX8_worsts_154 : decode cX8_worsts 154 = .ok (.goto (-138), 3) := by decide +kernel
theorem dX8_worsts_157 : decode cX8_worsts 157 = .ok (.iload 4, 2) := by decide +kernel
theorem dX8_worsts_159 : decode cX8_worsts 159 = .ok (.ireturn, 1) := by decide +kernel
set_option maxRecDepth 20000 in
theorem ggX8_worst_X8_isParty : GoodIn wsX8_worst wsX8_isParty := goodIn_r _ [7, 8, 57, 58, 59, 60, 61, 62, 63, 64, 65, 66, 67, 68, 69, 70, 71, 72, 73, 74, 75, 76, 77, 78, 79, 80, 81, 82, 83, 84, 85, 86, 87, 88] (by decide +kernel) (by decide +kernel)
set_option maxRecDepth 20000 in
theorem gX8_worst_X8_isParty : GoodIn wsX8_worst (wsV RX8 173 RX8 yX8_isParty wsX8_isParty) := goodIn_app (goodIn_of _ (by decide +kernel)) ggX8_worst_X8_isParty
set_option maxRecDepth 20000 in
theorem ggX8_worst_X8_isMinute : GoodIn wsX8_worst wsX8_isMinute := goodIn_r _ [11] (by decide +kernel) (by decide +kernel)
set_option maxRecDepth 20000 in
theorem gX8_worst_X8_isMinute : GoodIn wsX8_worst (va_wsS RX8 129 yX8_isMinute wsX8_isMinute) := goodIn_app (goodIn_of _ (by decide +kernel)) ggX8_worst_X8_isMinute
set_option maxRecDepth 20000 in
theorem ggX8_worst_X8_refuse : GoodIn wsX8_worst wsX8_refuse := goodIn_r _ [15, 16, 57, 58, 59, 60, 61, 62, 63, 64, 65, 66, 67, 68, 69, 70, 71, 72, 73, 74, 75, 76, 77, 78, 79, 80, 81, 82, 83, 84, 85, 86, 87, 88] (by decide +kernel) (by decide +kernel)
set_option maxRecDepth 20000 in
theorem gX8_worst_X8_refuse : GoodIn wsX8_worst (wsV RX8 110 RX8 yX8_refuse wsX8_refuse) := goodIn_app (goodIn_of _ (by decide +kernel)) ggX8_worst_X8_refuse
set_option maxRecDepth 20000 in
theorem ggX8_worst_X8_worsts : GoodIn wsX8_worst wsX8_worsts := goodIn_r _ [20, 1, 2, 21, 22, 23, 24, 25, 26, 27, 28, 29, 30, 6, 31, 32, 33, 34, 35, 36, 37, 38, 8, 39, 40, 41, 42, 43, 44, 45, 46, 47, 48, 49, 50, 57, 58, 59, 60, 61, 62, 63, 64, 65, 66, 67, 68, 69, 70, 71, 72, 73, 74, 75, 76, 77, 78, 79, 80, 81, 82, 83, 84, 85, 86, 87, 88] (by decide +kernel) (by decide +kernel)
set_option maxRecDepth 20000 in
theorem gX8_worst_X8_worsts : GoodIn wsX8_worst (wsV RX8 190 RX8 yX8_worsts wsX8_worsts) := goodIn_app (goodIn_of _ (by decide +kernel)) ggX8_worst_X8_worsts
set_option maxRecDepth 20000 in
theorem ggX8_worst_X8_fraction : GoodIn wsX8_worst wsX8_fraction := goodIn_r _ [54, 55, 56, 16, 57, 58, 59, 60, 61, 62, 63, 64, 65, 66, 67, 68, 69, 70, 71, 72, 73, 74, 75, 76, 77, 78, 79, 80, 81, 82, 83, 84, 85, 86, 87, 88] (by decide +kernel) (by decide +kernel)
set_option maxRecDepth 20000 in
theorem gX8_worst_X8_fraction : GoodIn wsX8_worst (wsV RX8 125 RX8 yX8_fraction wsX8_fraction) := goodIn_app (goodIn_of _ (by decide +kernel)) ggX8_worst_X8_fraction
theorem dX8_worst_0 : decode cX8_worst 0 = .ok (.aload_n 0, 1) := by decide +kernel
theorem dX8_worst_1 : decode cX8_worst 1 = .ok (.iload_n 1, 1) := by decide +kernel
theorem dX8_worst_2 : decode cX8_worst 2 = .ok (.invokevirtual 173, 3) := by decide +kernel
theorem dX8_worst_5 : decode cX8_worst 5 = .ok (.ifCond .eq 10, 3) := by decide +kernel
theorem dX8_worst_8 : decode cX8_worst 8 = .ok (.iload_n 2, 1) := by decide +kernel
theorem dX8_worst_9 : decode cX8_worst 9 = .ok (.invokestatic 129, 3) := by decide +kernel
theorem dX8_worst_12 : decode cX8_worst 12 = .ok (.ifCond .ne 9, 3) := by decide +kernel
theorem dX8_worst_15 : decode cX8_worst 15 = .ok (.aload_n 0, 1) := by decide +kernel
theorem dX8_worst_16 : decode cX8_worst 16 = .ok (.iconst 1, 1) := by decide +kernel
theorem dX8_worst_17 : decode cX8_worst 17 = .ok (.invokevirtual 110, 3) := by decide +kernel
theorem dX8_worst_20 : decode cX8_worst 20 = .ok (.ireturn, 1) := by decide +kernel
theorem dX8_worst_21 : decode cX8_worst 21 = .ok (.aload_n 0, 1) := by decide +kernel
theorem dX8_worst_22 : decode cX8_worst 22 = .ok (.iload_n 1, 1) := by decide +kernel
theorem dX8_worst_23 : decode cX8_worst 23 = .ok (.iload_n 2, 1) := by decide +kernel
theorem dX8_worst_24 : decode cX8_worst 24 = .ok (.iload_n 3, 1) := by decide +kernel
theorem dX8_worst_25 : decode cX8_worst 25 = .ok (.invokevirtual 190, 3) := by decide +kernel
theorem dX8_worst_28 : decode cX8_worst 28 = .ok (.ifCond .eq 18, 3) := by decide +kernel
theorem dX8_worst_31 : decode cX8_worst 31 = .ok (.aload_n 0, 1) := by decide +kernel
theorem dX8_worst_32 : decode cX8_worst 32 = .ok (.aload_n 0, 1) := by decide +kernel
theorem dX8_worst_33 : decode cX8_worst 33 = .ok (.getfield 160, 3) := by decide +kernel
theorem dX8_worst_36 : decode cX8_worst 36 = .ok (.aload_n 0, 1) := by decide +kernel
theorem dX8_worst_37 : decode cX8_worst 37 = .ok (.getfield 157, 3) := by decide +kernel
theorem dX8_worst_40 : decode cX8_worst 40 = .ok (.invokevirtual 125, 3) := by decide +kernel
theorem dX8_worst_43 : decode cX8_worst 43 = .ok (.goto 8, 3) := by decide +kernel
theorem dX8_worst_46 : decode cX8_worst 46 = .ok (.aload_n 0, 1) := by decide +kernel
theorem dX8_worst_47 : decode cX8_worst 47 = .ok (.iconst 5, 1) := by decide +kernel
theorem dX8_worst_48 : decode cX8_worst 48 = .ok (.invokevirtual 110, 3) := by decide +kernel
theorem dX8_worst_51 : decode cX8_worst 51 = .ok (.ireturn, 1) := by decide +kernel
theorem dX8_size_0 : decode cX8_size 0 = .ok (.aload_n 0, 1) := by decide +kernel
theorem dX8_size_1 : decode cX8_size 1 = .ok (.getfield 65, 3) := by decide +kernel
theorem dX8_size_4 : decode cX8_size 4 = .ok (.iload_n 1, 1) := by decide +kernel
theorem dX8_size_5 : decode cX8_size 5 = .ok (.iaload, 1) := by decide +kernel
theorem dX8_size_6 : decode cX8_size 6 = .ok (.ifCond .ge 13, 3) := by decide +kernel
theorem dX8_size_9 : decode cX8_size 9 = .ok (.aload_n 0, 1) := by decide +kernel
theorem dX8_size_10 : decode cX8_size 10 = .ok (.getfield 65, 3) := by decide +kernel
theorem dX8_size_13 : decode cX8_size 13 = .ok (.iload_n 1, 1) := by decide +kernel
theorem dX8_size_14 : decode cX8_size 14 = .ok (.iaload, 1) := by decide +kernel
theorem dX8_size_15 : decode cX8_size 15 = .ok (.ineg, 1) := by decide +kernel
theorem dX8_size_16 : decode cX8_size 16 = .ok (.goto 9, 3) := by decide +kernel
theorem dX8_size_19 : decode cX8_size 19 = .ok (.aload_n 0, 1) := by decide +kernel
theorem dX8_size_20 : decode cX8_size 20 = .ok (.getfield 65, 3) := by decide +kernel
theorem dX8_size_23 : decode cX8_size 23 = .ok (.iload_n 1, 1) := by decide +kernel
theorem dX8_size_24 : decode cX8_size 24 = .ok (.iaload, 1) := by decide +kernel
theorem dX8_size_25 : decode cX8_size 25 = .ok (.ireturn, 1) := by decide +kernel
theorem dX8_sign_0 : decode cX8_sign 0 = .ok (.aload_n 0, 1) := by decide +kernel
theorem dX8_sign_1 : decode cX8_sign 1 = .ok (.getfield 65, 3) := by decide +kernel
theorem dX8_sign_4 : decode cX8_sign 4 = .ok (.iload_n 1, 1) := by decide +kernel
theorem dX8_sign_5 : decode cX8_sign 5 = .ok (.iaload, 1) := by decide +kernel
theorem dX8_sign_6 : decode cX8_sign 6 = .ok (.ifCond .le 7, 3) := by decide +kernel
theorem dX8_sign_9 : decode cX8_sign 9 = .ok (.iconst 1, 1) := by decide +kernel
theorem dX8_sign_10 : decode cX8_sign 10 = .ok (.goto 17, 3) := by decide +kernel
theorem dX8_sign_13 : decode cX8_sign 13 = .ok (.aload_n 0, 1) := by decide +kernel
theorem dX8_sign_14 : decode cX8_sign 14 = .ok (.getfield 65, 3) := by decide +kernel
theorem dX8_sign_17 : decode cX8_sign 17 = .ok (.iload_n 1, 1) := by decide +kernel
theorem dX8_sign_18 : decode cX8_sign 18 = .ok (.iaload, 1) := by decide +kernel
theorem dX8_sign_19 : decode cX8_sign 19 = .ok (.ifCond .ge 7, 3) := by decide +kernel
theorem dX8_sign_22 : decode cX8_sign 22 = .ok (.iconst (-1), 1) := by decide +kernel
theorem dX8_sign_23 : decode cX8_sign 23 = .ok (.goto 4, 3) := by decide +kernel
theorem dX8_sign_26 : decode cX8_sign 26 = .ok (.iconst 0, 1) := by decide +kernel
theorem dX8_sign_27 : decode cX8_sign 27 = .ok (.ireturn, 1) := by decide +kernel
theorem dX8_room_0 : decode cX8_room 0 = .ok (.aload_n 0, 1) := by decide +kernel
theorem dX8_room_1 : decode cX8_room 1 = .ok (.getfield 194, 3) := by decide +kernel
theorem dX8_room_4 : decode cX8_room 4 = .ok (.istore_n 2, 1) := by decide +kernel
theorem dX8_room_5 : decode cX8_room 5 = .ok (.aload_n 0, 1) := by decide +kernel
theorem dX8_room_6 : decode cX8_room 6 = .ok (.dup, 1) := by decide +kernel
theorem dX8_room_7 : decode cX8_room 7 = .ok (.getfield 194, 3) := by decide +kernel
theorem dX8_room_10 : decode cX8_room 10 = .ok (.iload_n 1, 1) := by decide +kernel
theorem dX8_room_11 : decode cX8_room 11 = .ok (.iconst 1, 1) := by decide +kernel
theorem dX8_room_12 : decode cX8_room 12 = .ok (.iadd, 1) := by decide +kernel
theorem dX8_room_13 : decode cX8_room 13 = .ok (.iadd, 1) := by decide +kernel
theorem dX8_room_14 : decode cX8_room 14 = .ok (.putfield 194, 3) := by decide +kernel
theorem dX8_room_17 : decode cX8_room 17 = .ok (.iload_n 2, 1) := by decide +kernel
theorem dX8_room_18 : decode cX8_room 18 = .ok (.ireturn, 1) := by decide +kernel
theorem dX8_done_0 : decode cX8_done 0 = .ok (.iload_n 2, 1) := by decide +kernel
theorem dX8_done_1 : decode cX8_done 1 = .ok (.istore 4, 2) := by decide +kernel
theorem dX8_done_3 : decode cX8_done 3 = .ok (.iload 4, 2) := by decide +kernel
theorem dX8_done_5 : decode cX8_done 5 = .ok (.ifCond .le 21, 3) := by decide +kernel
theorem dX8_done_8 : decode cX8_done 8 = .ok (.aload_n 0, 1) := by decide +kernel
theorem dX8_done_9 : decode cX8_done 9 = .ok (.getfield 65, 3) := by decide +kernel
theorem dX8_done_12 : decode cX8_done 12 = .ok (.iload_n 1, 1) := by decide +kernel
theorem dX8_done_13 : decode cX8_done 13 = .ok (.iload 4, 2) := by decide +kernel
theorem dX8_done_15 : decode cX8_done 15 = .ok (.iadd, 1) := by decide +kernel
theorem dX8_done_16 : decode cX8_done 16 = .ok (.iaload, 1) := by decide +kernel
theorem dX8_done_17 : decode cX8_done 17 = .ok (.ifCond .ne 9, 3) := by decide +kernel
theorem dX8_done_20 : decode cX8_done 20 = .ok (.iinc 4 (-1), 3) := by decide +kernel
theorem dX8_done_23 : decode cX8_done 23 = .ok (.goto (-20), 3) := by decide +kernel
theorem dX8_done_26 : decode cX8_done 26 = .ok (.aload_n 0, 1) := by decide +kernel
theorem dX8_done_27 : decode cX8_done 27 = .ok (.getfield 65, 3) := by decide +kernel
theorem dX8_done_30 : decode cX8_done 30 = .ok (.iload_n 1, 1) := by decide +kernel
theorem dX8_done_31 : decode cX8_done 31 = .ok (.iload_n 3, 1) := by decide +kernel
theorem dX8_done_32 : decode cX8_done 32 = .ok (.ifCond .eq 9, 3) := by decide +kernel
theorem dX8_done_35 : decode cX8_done 35 = .ok (.iload 4, 2) := by decide +kernel
theorem dX8_done_37 : decode cX8_done 37 = .ok (.ineg, 1) := by decide +kernel
theorem dX8_done_38 : decode cX8_done 38 = .ok (.goto 5, 3) := by decide +kernel
theorem dX8_done_41 : decode cX8_done 41 = .ok (.iload 4, 2) := by decide +kernel
theorem dX8_done_43 : decode cX8_done 43 = .ok (.iastore, 1) := by decide +kernel
theorem dX8_done_44 : decode cX8_done 44 = .ok (.aload_n 0, 1) := by decide +kernel
theorem dX8_done_45 : decode cX8_done 45 = .ok (.iload_n 1, 1) := by decide +kernel
theorem dX8_done_46 : decode cX8_done 46 = .ok (.iload 4, 2) := by decide +kernel
theorem dX8_done_48 : decode cX8_done 48 = .ok (.iadd, 1) := by decide +kernel
theorem dX8_done_49 : decode cX8_done 49 = .ok (.iconst 1, 1) := by decide +kernel
theorem dX8_done_50 : decode cX8_done 50 = .ok (.iadd, 1) := by decide +kernel
theorem dX8_done_51 : decode cX8_done 51 = .ok (.putfield 194, 3) := by decide +kernel
theorem dX8_done_54 : decode cX8_done 54 = .ok (.iload_n 1, 1) := by decide +kernel
theorem dX8_done_55 : decode cX8_done 55 = .ok (.ireturn, 1) := by decide +kernel
set_option maxRecDepth 20000 in
theorem ggX8_whole_X8_room : GoodIn wsX8_whole wsX8_room := goodIn_r _ [7, 8, 13, 14, 15, 16, 17, 18, 19, 20, 21, 22, 23, 24, 25, 26, 27, 28, 29, 30, 31, 32, 33, 34, 35, 36, 37, 38, 39, 40, 41, 42, 43, 44] (by decide +kernel) (by decide +kernel)
set_option maxRecDepth 20000 in
theorem gX8_whole_X8_room : GoodIn wsX8_whole (wsV RX8 197 RX8 yX8_room wsX8_room) := goodIn_app (goodIn_of _ (by decide +kernel)) ggX8_whole_X8_room
set_option maxRecDepth 20000 in
theorem ggX8_whole_X8_done : GoodIn wsX8_whole wsX8_done := goodIn_r _ [12, 1, 8, 13, 14, 15, 16, 17, 18, 19, 20, 21, 22, 23, 24, 25, 26, 27, 28, 29, 30, 31, 32, 33, 34, 35, 36, 37, 38, 39, 40, 41, 42, 43, 44] (by decide +kernel) (by decide +kernel)
set_option maxRecDepth 20000 in
theorem gX8_whole_X8_done : GoodIn wsX8_whole (wsV RX8 202 RX8 yX8_done wsX8_done) := goodIn_app (goodIn_of _ (by decide +kernel)) ggX8_whole_X8_done
theorem dX8_whole_0 : decode cX8_whole 0 = .ok (.aload_n 0, 1) := by decide +kernel
theorem dX8_whole_1 : decode cX8_whole 1 = .ok (.iconst 3, 1) := by decide +kernel
theorem dX8_whole_2 : decode cX8_whole 2 = .ok (.invokevirtual 197, 3) := by decide +kernel
theorem dX8_whole_5 : decode cX8_whole 5 = .ok (.istore_n 3, 1) := by decide +kernel
theorem dX8_whole_6 : decode cX8_whole 6 = .ok (.lload_n 1, 1) := by decide +kernel
theorem dX8_whole_7 : decode cX8_whole 7 = .ok (.lconst 0, 1) := by decide +kernel
theorem dX8_whole_8 : decode cX8_whole 8 = .ok (.lcmp, 1) := by decide +kernel
theorem dX8_whole_9 : decode cX8_whole 9 = .ok (.ifCond .ge 8, 3) := by decide +kernel
theorem dX8_whole_12 : decode cX8_whole 12 = .ok (.lload_n 1, 1) := by decide +kernel
theorem dX8_whole_13 : decode cX8_whole 13 = .ok (.lneg, 1) := by decide +kernel
theorem dX8_whole_14 : decode cX8_whole 14 = .ok (.goto 4, 3) := by decide +kernel
theorem dX8_whole_17 : decode cX8_whole 17 = .ok (.lload_n 1, 1) := by decide +kernel
theorem dX8_whole_18 : decode cX8_whole 18 = .ok (.lstore 4, 2) := by decide +kernel
theorem dX8_whole_20 : decode cX8_whole 20 = .ok (.aload_n 0, 1) := by decide +kernel
theorem dX8_whole_21 : decode cX8_whole 21 = .ok (.getfield 65, 3) := by decide +kernel
theorem dX8_whole_24 : decode cX8_whole 24 = .ok (.iload_n 3, 1) := by decide +kernel
theorem dX8_whole_25 : decode cX8_whole 25 = .ok (.iconst 1, 1) := by decide +kernel
theorem dX8_whole_26 : decode cX8_whole 26 = .ok (.iadd, 1) := by decide +kernel
theorem dX8_whole_27 : decode cX8_whole 27 = .ok (.lload 4, 2) := by decide +kernel
theorem dX8_whole_29 : decode cX8_whole 29 = .ok (.ldc2_w 200, 3) := by decide +kernel
theorem dX8_whole_32 : decode cX8_whole 32 = .ok (.land, 1) := by decide +kernel
theorem dX8_whole_33 : decode cX8_whole 33 = .ok (.l2i, 1) := by decide +kernel
theorem dX8_whole_34 : decode cX8_whole 34 = .ok (.iastore, 1) := by decide +kernel
theorem dX8_whole_35 : decode cX8_whole 35 = .ok (.aload_n 0, 1) := by decide +kernel
theorem dX8_whole_36 : decode cX8_whole 36 = .ok (.getfield 65, 3) := by decide +kernel
theorem dX8_whole_39 : decode cX8_whole 39 = .ok (.iload_n 3, 1) := by decide +kernel
theorem dX8_whole_40 : decode cX8_whole 40 = .ok (.iconst 2, 1) := by decide +kernel
theorem dX8_whole_41 : decode cX8_whole 41 = .ok (.iadd, 1) := by decide +kernel
theorem dX8_whole_42 : decode cX8_whole 42 = .ok (.lload 4, 2) := by decide +kernel
theorem dX8_whole_44 : decode cX8_whole 44 = .ok (.bipush 30, 2) := by decide +kernel
theorem dX8_whole_46 : decode cX8_whole 46 = .ok (.lushr, 1) := by decide +kernel
theorem dX8_whole_47 : decode cX8_whole 47 = .ok (.ldc2_w 200, 3) := by decide +kernel
theorem dX8_whole_50 : decode cX8_whole 50 = .ok (.land, 1) := by decide +kernel
theorem dX8_whole_51 : decode cX8_whole 51 = .ok (.l2i, 1) := by decide +kernel
theorem dX8_whole_52 : decode cX8_whole 52 = .ok (.iastore, 1) := by decide +kernel
theorem dX8_whole_53 : decode cX8_whole 53 = .ok (.aload_n 0, 1) := by decide +kernel
theorem dX8_whole_54 : decode cX8_whole 54 = .ok (.getfield 65, 3) := by decide +kernel
theorem dX8_whole_57 : decode cX8_whole 57 = .ok (.iload_n 3, 1) := by decide +kernel
theorem dX8_whole_58 : decode cX8_whole 58 = .ok (.iconst 3, 1) := by decide +kernel
theorem dX8_whole_59 : decode cX8_whole 59 = .ok (.iadd, 1) := by decide +kernel
theorem dX8_whole_60 : decode cX8_whole 60 = .ok (.lload 4, 2) := by decide +kernel
theorem dX8_whole_62 : decode cX8_whole 62 = .ok (.bipush 60, 2) := by decide +kernel
theorem dX8_whole_64 : decode cX8_whole 64 = .ok (.lushr, 1) := by decide +kernel
theorem dX8_whole_65 : decode cX8_whole 65 = .ok (.l2i, 1) := by decide +kernel
theorem dX8_whole_66 : decode cX8_whole 66 = .ok (.iastore, 1) := by decide +kernel
theorem dX8_whole_67 : decode cX8_whole 67 = .ok (.aload_n 0, 1) := by decide +kernel
theorem dX8_whole_68 : decode cX8_whole 68 = .ok (.iload_n 3, 1) := by decide +kernel
theorem dX8_whole_69 : decode cX8_whole 69 = .ok (.iconst 3, 1) := by decide +kernel
theorem dX8_whole_70 : decode cX8_whole 70 = .ok (.lload_n 1, 1) := by decide +kernel
theorem dX8_whole_71 : decode cX8_whole 71 = .ok (.lconst 0, 1) := by decide +kernel
theorem dX8_whole_72 : decode cX8_whole 72 = .ok (.lcmp, 1) := by decide +kernel
theorem dX8_whole_73 : decode cX8_whole 73 = .ok (.ifCond .ge 7, 3) := by decide +kernel
theorem dX8_whole_76 : decode cX8_whole 76 = .ok (.iconst 1, 1) := by decide +kernel
theorem dX8_whole_77 : decode cX8_whole 77 = .ok (.goto 4, 3) := by decide +kernel
theorem dX8_whole_80 : decode cX8_whole 80 = .ok (.iconst 0, 1) := by decide +kernel
theorem dX8_whole_81 : decode cX8_whole 81 = .ok (.invokevirtual 202, 3) := by decide +kernel
theorem dX8_whole_84 : decode cX8_whole 84 = .ok (.ireturn, 1) := by decide +kernel
set_option maxRecDepth 20000 in
theorem ggX8_compareSizes_X8_size : GoodIn wsX8_compareSizes wsX8_size := goodIn_r _ [6, 1, 7, 8, 9, 10, 11, 12, 13, 14, 15, 16, 17, 18, 19, 20, 21, 22, 23, 24, 25, 26, 27, 28, 29, 30, 31, 32, 33, 34, 35, 36, 37, 38] (by decide +kernel) (by decide +kernel)
set_option maxRecDepth 20000 in
theorem gX8_compareSizes_X8_size : GoodIn wsX8_compareSizes (wsV RX8 206 RX8 yX8_size wsX8_size) := goodIn_app (goodIn_of _ (by decide +kernel)) ggX8_compareSizes_X8_size
theorem dX8_compareSizes_0 : decode cX8_compareSizes 0 = .ok (.aload_n 0, 1) := by decide +kernel
theorem dX8_compareSizes_1 : decode cX8_compareSizes 1 = .ok (.iload_n 1, 1) := by decide +kernel
theorem dX8_compareSizes_2 : decode cX8_compareSizes 2 = .ok (.invokevirtual 206, 3) := by decide +kernel
theorem dX8_compareSizes_5 : decode cX8_compareSizes 5 = .ok (.istore_n 3, 1) := by decide +kernel
theorem dX8_compareSizes_6 : decode cX8_compareSizes 6 = .ok (.iload_n 3, 1) := by decide +kernel
theorem dX8_compareSizes_7 : decode cX8_compareSizes 7 = .ok (.aload_n 0, 1) := by decide +kernel
theorem dX8_compareSizes_8 : decode cX8_compareSizes 8 = .ok (.iload_n 2, 1) := by decide +kernel
theorem dX8_compareSizes_9 : decode cX8_compareSizes 9 = .ok (.invokevirtual 206, 3) := by decide +kernel
theorem dX8_compareSizes_12 : decode cX8_compareSizes 12 = .ok (.if_icmp .eq 18, 3) := by decide +kernel
theorem dX8_compareSizes_15 : decode cX8_compareSizes 15 = .ok (.iload_n 3, 1) := by decide +kernel
theorem dX8_compareSizes_16 : decode cX8_compareSizes 16 = .ok (.aload_n 0, 1) := by decide +kernel
theorem dX8_compareSizes_17 : decode cX8_compareSizes 17 = .ok (.iload_n 2, 1) := by decide +kernel
theorem dX8_compareSizes_18 : decode cX8_compareSizes 18 = .ok (.invokevirtual 206, 3) := by decide +kernel
theorem dX8_compareSizes_21 : decode cX8_compareSizes 21 = .ok (.if_icmp .le 7, 3) := by decide +kernel
theorem dX8_compareSizes_24 : decode cX8_compareSizes 24 = .ok (.iconst 1, 1) := by decide +kernel
theorem dX8_compareSizes_25 : decode cX8_compareSizes 25 = .ok (.goto 4, 3) := by decide +kernel
theorem dX8_compareSizes_28 : decode cX8_compareSizes 28 = .ok (.iconst (-1), 1) := by decide +kernel
theorem dX8_compareSizes_29 : decode cX8_compareSizes 29 = .ok (.ireturn, 1) := by decide +kernel
theorem dX8_compareSizes_30 : decode cX8_compareSizes 30 = .ok (.iload_n 3, 1) := by decide +kernel
theorem dX8_compareSizes_31 : decode cX8_compareSizes 31 = .ok (.istore 4, 2) := by decide +kernel
theorem dX8_compareSizes_33 : decode cX8_compareSizes 33 = .ok (.iload 4, 2) := by decide +kernel
theorem dX8_compareSizes_35 : decode cX8_compareSizes 35 = .ok (.ifCond .le 57, 3) := by decide +kernel
theorem dX8_compareSizes_38 : decode cX8_compareSizes 38 = .ok (.aload_n 0, 1) := by decide +kernel
theorem dX8_compareSizes_39 : decode cX8_compareSizes 39 = .ok (.getfield 65, 3) := by decide +kernel
theorem dX8_compareSizes_42 : decode cX8_compareSizes 42 = .ok (.iload_n 1, 1) := by decide +kernel
theorem dX8_compareSizes_43 : decode cX8_compareSizes 43 = .ok (.iload 4, 2) := by decide +kernel
theorem dX8_compareSizes_45 : decode cX8_compareSizes 45 = .ok (.iadd, 1) := by decide +kernel
theorem dX8_compareSizes_46 : decode cX8_compareSizes 46 = .ok (.iaload, 1) := by decide +kernel
theorem dX8_compareSizes_47 : decode cX8_compareSizes 47 = .ok (.aload_n 0, 1) := by decide +kernel
theorem dX8_compareSizes_48 : decode cX8_compareSizes 48 = .ok (.getfield 65, 3) := by decide +kernel
theorem dX8_compareSizes_51 : decode cX8_compareSizes 51 = .ok (.iload_n 2, 1) := by decide +kernel
theorem dX8_compareSizes_52 : decode cX8_compareSizes 52 = .ok (.iload 4, 2) := by decide +kernel
theorem dX8_compareSizes_54 : decode cX8_compareSizes 54 = .ok (.iadd, 1) := by decide +kernel
theorem dX8_compareSizes_55 : decode cX8_compareSizes 55 = .ok (.iaload, 1) := by decide +kernel
theorem dX8_compareSizes_56 : decode cX8_compareSizes 56 = .ok (.if_icmp .eq 30, 3) := by decide +kernel
theorem dX8_compareSizes_59 : decode cX8_compareSizes 59 = .ok (.aload_n 0, 1) := by decide +kernel
theorem dX8_compareSizes_60 : decode cX8_compareSizes 60 = .ok (.getfield 65, 3) := by decide +kernel
theorem dX8_compareSizes_63 : decode cX8_compareSizes 63 = .ok (.iload_n 1, 1) := by decide +kernel
theorem dX8_compareSizes_64 : decode cX8_compareSizes 64 = .ok (.iload 4, 2) := by decide +kernel
theorem dX8_compareSizes_66 : decode cX8_compareSizes 66 = .ok (.iadd, 1) := by decide +kernel
theorem dX8_compareSizes_67 : decode cX8_compareSizes 67 = .ok (.iaload, 1) := by decide +kernel
theorem dX8_compareSizes_68 : decode cX8_compareSizes 68 = .ok (.aload_n 0, 1) := by decide +kernel
theorem dX8_compareSizes_69 : decode cX8_compareSizes 69 = .ok (.getfield 65, 3) := by decide +kernel
theorem dX8_compareSizes_72 : decode cX8_compareSizes 72 = .ok (.iload_n 2, 1) := by decide +kernel
theorem dX8_compareSizes_73 : decode cX8_compareSizes 73 = .ok (.iload 4, 2) := by decide +kernel
theorem dX8_compareSizes_75 : decode cX8_compareSizes 75 = .ok (.iadd, 1) := by decide +kernel
theorem dX8_compareSizes_76 : decode cX8_compareSizes 76 = .ok (.iaload, 1) := by decide +kernel
theorem dX8_compareSizes_77 : decode cX8_compareSizes 77 = .ok (.if_icmp .le 7, 3) := by decide +kernel
theorem dX8_compareSizes_80 : decode cX8_compareSizes 80 = .ok (.iconst 1, 1) := by decide +kernel
theorem dX8_compareSizes_81 : decode cX8_compareSizes 81 = .ok (.goto 4, 3) := by decide +kernel
theorem dX8_compareSizes_84 : decode cX8_compareSizes 84 = .ok (.iconst (-1), 1) := by decide +kernel
theorem dX8_compareSizes_85 : decode cX8_compareSizes 85 = .ok (.ireturn, 1) := by decide +kernel
theorem dX8_compareSizes_86 : decode cX8_compareSizes 86 = .ok (.iinc 4 (-1), 3) := by decide +kernel
theorem dX8_compareSizes_89 : decode cX8_compareSizes 89 = .ok (.goto (-56), 3) := by decide +kernel
theorem dX8_compareSizes_92 : decode cX8_compareSizes 92 = .ok (.iconst 0, 1) := by decide +kernel
theorem dX8_compareSizes_93 : decode cX8_compareSizes 93 = .ok (.ireturn, 1) := by decide +kernel
set_option maxRecDepth 20000 in
theorem ggX8_times_X8_sign : GoodIn wsX8_times wsX8_sign := goodIn_r _ [7, 1, 25, 26, 27, 28, 29, 30, 31, 32, 33, 34, 35, 36, 37, 38, 39, 40, 41, 42, 43, 44, 45, 46, 47, 48, 49, 50, 51, 52, 53, 54, 55, 56] (by decide +kernel) (by decide +kernel)
set_option maxRecDepth 20000 in
theorem gX8_times_X8_sign : GoodIn wsX8_times (wsV RX8 209 RX8 yX8_sign wsX8_sign) := goodIn_app (goodIn_of _ (by decide +kernel)) ggX8_times_X8_sign
set_option maxRecDepth 20000 in
theorem ggX8_times_X8_whole : GoodIn wsX8_times wsX8_whole := goodIn_r _ [11, 1, 2, 12, 13, 14, 6, 15, 16, 17, 18, 19, 20, 25, 26, 27, 28, 29, 30, 31, 32, 33, 34, 35, 36, 37, 38, 39, 40, 41, 42, 43, 44, 45, 46, 47, 48, 49, 50, 51, 52, 53, 54, 55, 56] (by decide +kernel) (by decide +kernel)
set_option maxRecDepth 20000 in
theorem gX8_times_X8_whole : GoodIn wsX8_times (wsV RX8 212 RX8 yX8_whole wsX8_whole) := goodIn_app (goodIn_of _ (by decide +kernel)) ggX8_times_X8_whole
set_option maxRecDepth 20000 in
theorem ggX8_times_X8_size : GoodIn wsX8_times wsX8_size := goodIn_r _ [24, 1, 25, 26, 27, 28, 29, 30, 31, 32, 33, 34, 35, 36, 37, 38, 39, 40, 41, 42, 43, 44, 45, 46, 47, 48, 49, 50, 51, 52, 53, 54, 55, 56] (by decide +kernel) (by decide +kernel)
set_option maxRecDepth 20000 in
theorem gX8_times_X8_size : GoodIn wsX8_times (wsV RX8 206 RX8 yX8_size wsX8_size) := goodIn_app (goodIn_of _ (by decide +kernel)) ggX8_times_X8_size
set_option maxRecDepth 20000 in
theorem ggX8_times_X8_room : GoodIn wsX8_times wsX8_room := goodIn_r _ [15, 16, 25, 26, 27, 28, 29, 30, 31, 32, 33, 34, 35, 36, 37, 38, 39, 40, 41, 42, 43, 44, 45, 46, 47, 48, 49, 50, 51, 52, 53, 54, 55, 56] (by decide +kernel) (by decide +kernel)
set_option maxRecDepth 20000 in
theorem gX8_times_X8_room : GoodIn wsX8_times (wsV RX8 197 RX8 yX8_room wsX8_room) := goodIn_app (goodIn_of _ (by decide +kernel)) ggX8_times_X8_room
set_option maxRecDepth 20000 in
theorem ggX8_times_X8_done : GoodIn wsX8_times wsX8_done := goodIn_r _ [20, 1, 16, 25, 26, 27, 28, 29, 30, 31, 32, 33, 34, 35, 36, 37, 38, 39, 40, 41, 42, 43, 44, 45, 46, 47, 48, 49, 50, 51, 52, 53, 54, 55, 56] (by decide +kernel) (by decide +kernel)
set_option maxRecDepth 20000 in
theorem gX8_times_X8_done : GoodIn wsX8_times (wsV RX8 202 RX8 yX8_done wsX8_done) := goodIn_app (goodIn_of _ (by decide +kernel)) ggX8_times_X8_done
theorem dX8_times_0 : decode cX8_times 0 = .ok (.aload_n 0, 1) := by decide +kernel
theorem dX8_times_1 : decode cX8_times 1 = .ok (.iload_n 1, 1) := by decide +kernel
theorem dX8_times_2 : decode cX8_times 2 = .ok (.invokevirtual 209, 3) := by decide +kernel
theorem dX8_times_5 : decode cX8_times 5 = .ok (.ifCond .eq 11, 3) := by decide +kernel
theorem dX8_times_8 : decode cX8_times 8 = .ok (.aload_n 0, 1) := by decide +kernel
theorem dX8_times_9 : decode cX8_times 9 = .ok (.iload_n 2, 1) := by decide +kernel
theorem dX8_times_10 : decode cX8_times 10 = .ok (.invokevirtual 209, 3) := by decide +kernel
theorem dX8_times_13 : decode cX8_times 13 = .ok (.ifCond .ne 9, 3) := by decide +kernel
theorem dX8_times_16 : decode cX8_times 16 = .ok (.aload_n 0, 1) := by decide +kernel
theorem dX8_times_17 : decode cX8_times 17 = .ok (.lconst 0, 1) := by decide +kernel
theorem dX8_times_18 : decode cX8_times 18 = .ok (.invokevirtual 212, 3) := by decide +kernel
theorem dX8_times_21 : decode cX8_times 21 = .ok (.ireturn, 1) := by decide +kernel
theorem dX8_times_22 : decode cX8_times 22 = .ok (.aload_n 0, 1) := by decide +kernel
theorem dX8_times_23 : decode cX8_times 23 = .ok (.iload_n 1, 1) := by decide +kernel
theorem dX8_times_24 : decode cX8_times 24 = .ok (.invokevirtual 206, 3) := by decide +kernel
theorem dX8_times_27 : decode cX8_times 27 = .ok (.istore_n 3, 1) := by decide +kernel
theorem dX8_times_28 : decode cX8_times 28 = .ok (.aload_n 0, 1) := by decide +kernel
theorem dX8_times_29 : decode cX8_times 29 = .ok (.iload_n 2, 1) := by decide +kernel
theorem dX8_times_30 : decode cX8_times 30 = .ok (.invokevirtual 206, 3) := by decide +kernel
theorem dX8_times_33 : decode cX8_times 33 = .ok (.istore 4, 2) := by decide +kernel
theorem dX8_times_35 : decode cX8_times 35 = .ok (.aload_n 0, 1) := by decide +kernel
theorem dX8_times_36 : decode cX8_times 36 = .ok (.iload_n 3, 1) := by decide +kernel
theorem dX8_times_37 : decode cX8_times 37 = .ok (.iload 4, 2) := by decide +kernel
theorem dX8_times_39 : decode cX8_times 39 = .ok (.iadd, 1) := by decide +kernel
theorem dX8_times_40 : decode cX8_times 40 = .ok (.invokevirtual 197, 3) := by decide +kernel
theorem dX8_times_43 : decode cX8_times 43 = .ok (.istore 5, 2) := by decide +kernel
theorem dX8_times_45 : decode cX8_times 45 = .ok (.iconst 1, 1) := by decide +kernel
theorem dX8_times_46 : decode cX8_times 46 = .ok (.istore 6, 2) := by decide +kernel
theorem dX8_times_48 : decode cX8_times 48 = .ok (.iload 6, 2) := by decide +kernel
theorem dX8_times_50 : decode cX8_times 50 = .ok (.iload_n 3, 1) := by decide +kernel
theorem dX8_times_51 : decode cX8_times 51 = .ok (.iload 4, 2) := by decide +kernel
theorem dX8_times_53 : decode cX8_times 53 = .ok (.iadd, 1) := by decide +kernel
theorem dX8_times_54 : decode cX8_times 54 = .ok (.if_icmp .gt 20, 3) := by decide +kernel
theorem dX8_times_57 : decode cX8_times 57 = .ok (.aload_n 0, 1) := by decide +kernel
theorem dX8_times_58 : decode cX8_times 58 = .ok (.getfield 65, 3) := by decide +kernel
theorem dX8_times_61 : decode cX8_times 61 = .ok (.iload 5, 2) := by decide +kernel
theorem dX8_times_63 : decode cX8_times 63 = .ok (.iload 6, 2) := by decide +kernel
theorem dX8_times_65 : decode cX8_times 65 = .ok (.iadd, 1) := by decide +kernel
theorem dX8_times_66 : decode cX8_times 66 = .ok (.iconst 0, 1) := by decide +kernel
theorem dX8_times_67 : decode cX8_times 67 = .ok (.iastore, 1) := by decide +kernel
theorem dX8_times_68 : decode cX8_times 68 = .ok (.iinc 6 1, 3) := by decide +kernel
theorem dX8_times_71 : decode cX8_times 71 = .ok (.goto (-23), 3) := by decide +kernel
theorem dX8_times_74 : decode cX8_times 74 = .ok (.iconst 1, 1) := by decide +kernel
theorem dX8_times_75 : decode cX8_times 75 = .ok (.istore 6, 2) := by decide +kernel
theorem dX8_times_77 : decode cX8_times 77 = .ok (.iload 6, 2) := by decide +kernel
theorem dX8_times_79 : decode cX8_times 79 = .ok (.iload_n 3, 1) := by decide +kernel
theorem dX8_times_80 : decode cX8_times 80 = .ok (.if_icmp .gt 120, 3) := by decide +kernel
theorem dX8_times_83 : decode cX8_times 83 = .ok (.lconst 0, 1) := by decide +kernel
theorem dX8_times_84 : decode cX8_times 84 = .ok (.lstore 7, 2) := by decide +kernel
theorem dX8_times_86 : decode cX8_times 86 = .ok (.aload_n 0, 1) := by decide +kernel
theorem dX8_times_87 : decode cX8_times 87 = .ok (.getfield 65, 3) := by decide +kernel
theorem dX8_times_90 : decode cX8_times 90 = .ok (.iload_n 1, 1) := by decide +kernel
theorem dX8_times_91 : decode cX8_times 91 = .ok (.iload 6, 2) := by decide +kernel
theorem dX8_times_93 : decode cX8_times 93 = .ok (.iadd, 1) := by decide +kernel
theorem dX8_times_94 : decode cX8_times 94 = .ok (.iaload, 1) := by decide +kernel
theorem dX8_times_95 : decode cX8_times 95 = .ok (.i2l, 1) := by decide +kernel
theorem dX8_times_96 : decode cX8_times 96 = .ok (.lstore 9, 2) := by decide +kernel
theorem dX8_times_98 : decode cX8_times 98 = .ok (.iconst 1, 1) := by decide +kernel
theorem dX8_times_99 : decode cX8_times 99 = .ok (.istore 11, 2) := by decide +kernel
theorem dX8_times_101 : decode cX8_times 101 = .ok (.iload 11, 2) := by decide +kernel
theorem dX8_times_103 : decode cX8_times 103 = .ok (.iload 4, 2) := by decide +kernel
theorem dX8_times_105 : decode cX8_times 105 = .ok (.if_icmp .gt 73, 3) := by decide +kernel
theorem dX8_times_108 : decode cX8_times 108 = .ok (.lload 7, 2) := by decide +kernel
theorem dX8_times_110 : decode cX8_times 110 = .ok (.lload 9, 2) := by decide +kernel
theorem dX8_times_112 : decode cX8_times 112 = .ok (.aload_n 0, 1) := by decide +kernel
theorem dX8_times_113 : decode cX8_times 113 = .ok (.getfield 65, 3) := by decide +kernel
theorem dX8_times_116 : decode cX8_times 116 = .ok (.iload_n 2, 1) := by decide +kernel
theorem dX8_times_117 : decode cX8_times 117 = .ok (.iload 11, 2) := by decide +kernel
theorem dX8_times_119 : decode cX8_times 119 = .ok (.iadd, 1) := by decide +kernel
theorem dX8_times_120 : decode cX8_times 120 = .ok (.iaload, 1) := by decide +kernel
theorem dX8_times_121 : decode cX8_times 121 = .ok (.i2l, 1) := by decide +kernel
theorem dX8_times_122 : decode cX8_times 122 = .ok (.lmul, 1) := by decide +kernel
theorem dX8_times_123 : decode cX8_times 123 = .ok (.aload_n 0, 1) := by decide +kernel
theorem dX8_times_124 : decode cX8_times 124 = .ok (.getfield 65, 3) := by decide +kernel
theorem dX8_times_127 : decode cX8_times 127 = .ok (.iload 5, 2) := by decide +kernel
theorem dX8_times_129 : decode cX8_times 129 = .ok (.iload 6, 2) := by decide +kernel
theorem dX8_times_131 : decode cX8_times 131 = .ok (.iadd, 1) := by decide +kernel
theorem dX8_times_132 : decode cX8_times 132 = .ok (.iload 11, 2) := by decide +kernel
theorem dX8_times_134 : decode cX8_times 134 = .ok (.iadd, 1) := by decide +kernel
theorem dX8_times_135 : decode cX8_times 135 = .ok (.iconst 1, 1) := by decide +kernel
theorem dX8_times_136 : decode cX8_times 136 = .ok (.isub, 1) := by decide +kernel
theorem dX8_times_137 : decode cX8_times 137 = .ok (.iaload, 1) := by decide +kernel
theorem dX8_times_138 : decode cX8_times 138 = .ok (.i2l, 1) := by decide +kernel
theorem dX8_times_139 : decode cX8_times 139 = .ok (.ladd, 1) := by decide +kernel
theorem dX8_times_140 : decode cX8_times 140 = .ok (.ladd, 1) := by decide +kernel
theorem dX8_times_141 : decode cX8_times 141 = .ok (.lstore 7, 2) := by decide +kernel
theorem dX8_times_143 : decode cX8_times 143 = .ok (.aload_n 0, 1) := by decide +kernel
theorem dX8_times_144 : decode cX8_times 144 = .ok (.getfield 65, 3) := by decide +kernel
theorem dX8_times_147 : decode cX8_times 147 = .ok (.iload 5, 2) := by decide +kernel
theorem dX8_times_149 : decode cX8_times 149 = .ok (.iload 6, 2) := by decide +kernel
theorem dX8_times_151 : decode cX8_times 151 = .ok (.iadd, 1) := by decide +kernel
theorem dX8_times_152 : decode cX8_times 152 = .ok (.iload 11, 2) := by decide +kernel
theorem dX8_times_154 : decode cX8_times 154 = .ok (.iadd, 1) := by decide +kernel
theorem dX8_times_155 : decode cX8_times 155 = .ok (.iconst 1, 1) := by decide +kernel
theorem dX8_times_156 : decode cX8_times 156 = .ok (.isub, 1) := by decide +kernel
theorem dX8_times_157 : decode cX8_times 157 = .ok (.lload 7, 2) := by decide +kernel
theorem dX8_times_159 : decode cX8_times 159 = .ok (.ldc2_w 200, 3) := by decide +kernel
theorem dX8_times_162 : decode cX8_times 162 = .ok (.land, 1) := by decide +kernel
theorem dX8_times_163 : decode cX8_times 163 = .ok (.l2i, 1) := by decide +kernel
theorem dX8_times_164 : decode cX8_times 164 = .ok (.iastore, 1) := by decide +kernel
theorem dX8_times_165 : decode cX8_times 165 = .ok (.lload 7, 2) := by decide +kernel
theorem dX8_times_167 : decode cX8_times 167 = .ok (.bipush 30, 2) := by decide +kernel
theorem dX8_times_169 : decode cX8_times 169 = .ok (.lushr, 1) := by decide +kernel
theorem dX8_times_170 : decode cX8_times 170 = .ok (.lstore 7, 2) := by decide +kernel
theorem dX8_times_172 : decode cX8_times 172 = .ok (.iinc 11 1, 3) := by decide +kernel
theorem dX8_times_175 : decode cX8_times 175 = .ok (.goto (-74), 3) := by decide +kernel
theorem dX8_times_178 : decode cX8_times 178 = .ok (.aload_n 0, 1) := by decide +kernel
theorem dX8_times_179 : decode cX8_times 179 = .ok (.getfield 65, 3) := by decide +kernel
theorem dX8_times_182 : decode cX8_times 182 = .ok (.iload 5, 2) := by decide +kernel
theorem dX8_times_184 : decode cX8_times 184 = .ok (.iload 6, 2) := by decide +kernel
theorem dX8_times_186 : decode cX8_times 186 = .ok (.iadd, 1) := by decide +kernel
theorem dX8_times_187 : decode cX8_times 187 = .ok (.iload 4, 2) := by decide +kernel
theorem dX8_times_189 : decode cX8_times 189 = .ok (.iadd, 1) := by decide +kernel
theorem dX8_times_190 : decode cX8_times 190 = .ok (.lload 7, 2) := by decide +kernel
theorem dX8_times_192 : decode cX8_times 192 = .ok (.l2i, 1) := by decide +kernel
theorem dX8_times_193 : decode cX8_times 193 = .ok (.iastore, 1) := by decide +kernel
theorem dX8_times_194 : decode cX8_times 194 = .ok (.iinc 6 1, 3) := by decide +kernel
theorem dX8_times_197 : decode cX8_times 197 = .ok (.goto (-120), 3) := by decide +kernel
theorem dX8_times_200 : decode cX8_times 200 = .ok (.aload_n 0, 1) := by decide +kernel
theorem dX8_times_201 : decode cX8_times 201 = .ok (.iload 5, 2) := by decide +kernel
theorem dX8_times_203 : decode cX8_times 203 = .ok (.iload_n 3, 1) := by decide +kernel
theorem dX8_times_204 : decode cX8_times 204 = .ok (.iload 4, 2) := by decide +kernel
theorem dX8_times_206 : decode cX8_times 206 = .ok (.iadd, 1) := by decide +kernel
theorem dX8_times_207 : decode cX8_times 207 = .ok (.aload_n 0, 1) := by decide +kernel
theorem dX8_times_208 : decode cX8_times 208 = .ok (.iload_n 1, 1) := by decide +kernel
theorem dX8_times_209 : decode cX8_times 209 = .ok (.invokevirtual 209, 3) := by decide +kernel
theorem dX8_times_212 : decode cX8_times 212 = .ok (.aload_n 0, 1) := by decide +kernel
theorem dX8_times_213 : decode cX8_times 213 = .ok (.iload_n 2, 1) := by decide +kernel
theorem dX8_times_214 : decode cX8_times 214 = .ok (.invokevirtual 209, 3) := by decide +kernel
theorem dX8_times_217 : decode cX8_times 217 = .ok (.if_icmp .eq 7, 3) := by decide +kernel
theorem dX8_times_220 : decode cX8_times 220 = .ok (.iconst 1, 1) := by decide +kernel
theorem dX8_times_221 : decode cX8_times 221 = .ok (.goto 4, 3) := by decide +kernel
theorem dX8_times_224 : decode cX8_times 224 = .ok (.iconst 0, 1) := by decide +kernel
theorem dX8_times_225 : decode cX8_times 225 = .ok (.invokevirtual 202, 3) := by decide +kernel
theorem dX8_times_228 : decode cX8_times 228 = .ok (.ireturn, 1) := by decide +kernel
set_option maxRecDepth 20000 in
theorem ggX8_isWide_X8_whole : GoodIn wsX8_isWide wsX8_whole := goodIn_r _ [7, 8, 9, 10, 11, 12, 6, 13, 1, 14, 15, 16, 17, 34, 35, 36, 37, 38, 39, 40, 41, 42, 43, 44, 45, 46, 47, 48, 49, 50, 51, 52, 53, 54, 55, 56, 57, 58, 59, 60, 61, 62, 63, 64, 65] (by decide +kernel) (by decide +kernel)
set_option maxRecDepth 20000 in
theorem gX8_isWide_X8_whole : GoodIn wsX8_isWide (wsV RX8 212 RX8 yX8_whole wsX8_whole) := goodIn_app (goodIn_of _ (by decide +kernel)) ggX8_isWide_X8_whole
set_option maxRecDepth 20000 in
theorem ggX8_isWide_X8_times : GoodIn wsX8_isWide wsX8_times := goodIn_r _ [21, 8, 9, 22, 23, 24, 6, 25, 3, 4, 5, 7, 10, 11, 12, 13, 1, 14, 15, 16, 17, 26, 27, 28, 29, 34, 35, 36, 37, 38, 39, 40, 41, 42, 43, 44, 45, 46, 47, 48, 49, 50, 51, 52, 53, 54, 55, 56, 57, 58, 59, 60, 61, 62, 63, 64, 65] (by decide +kernel) (by decide +kernel)
set_option maxRecDepth 20000 in
theorem gX8_isWide_X8_times : GoodIn wsX8_isWide (wsV RX8 216 RX8 yX8_times wsX8_times) := goodIn_app (goodIn_of _ (by decide +kernel)) ggX8_isWide_X8_times
set_option maxRecDepth 20000 in
theorem ggX8_isWide_X8_compareSizes : GoodIn wsX8_isWide wsX8_compareSizes := goodIn_r _ [33, 8, 26, 27, 28, 6, 29, 34, 35, 36, 37, 38, 39, 40, 41, 42, 43, 44, 45, 46, 47, 48, 49, 50, 51, 52, 53, 54, 55, 56, 57, 58, 59, 60, 61, 62, 63, 64, 65] (by decide +kernel) (by decide +kernel)
set_option maxRecDepth 20000 in
theorem gX8_isWide_X8_compareSizes : GoodIn wsX8_isWide (wsV RX8 219 RX8 yX8_compareSizes wsX8_compareSizes) := goodIn_app (goodIn_of _ (by decide +kernel)) ggX8_isWide_X8_compareSizes
theorem dX8_isWide_0 : decode cX8_isWide 0 = .ok (.aload_n 0, 1) := by decide +kernel
theorem dX8_isWide_1 : decode cX8_isWide 1 = .ok (.iconst 0, 1) := by decide +kernel
theorem dX8_isWide_2 : decode cX8_isWide 2 = .ok (.putfield 194, 3) := by decide +kernel
theorem dX8_isWide_5 : decode cX8_isWide 5 = .ok (.aload_n 0, 1) := by decide +kernel
theorem dX8_isWide_6 : decode cX8_isWide 6 = .ok (.aload_n 0, 1) := by decide +kernel
theorem dX8_isWide_7 : decode cX8_isWide 7 = .ok (.aload_n 0, 1) := by decide +kernel
theorem dX8_isWide_8 : decode cX8_isWide 8 = .ok (.lload_n 1, 1) := by decide +kernel
theorem dX8_isWide_9 : decode cX8_isWide 9 = .ok (.invokevirtual 212, 3) := by decide +kernel
theorem dX8_isWide_12 : decode cX8_isWide 12 = .ok (.aload_n 0, 1) := by decide +kernel
theorem dX8_isWide_13 : decode cX8_isWide 13 = .ok (.lload_n 1, 1) := by decide +kernel
theorem dX8_isWide_14 : decode cX8_isWide 14 = .ok (.invokevirtual 212, 3) := by decide +kernel
theorem dX8_isWide_17 : decode cX8_isWide 17 = .ok (.invokevirtual 216, 3) := by decide +kernel
theorem dX8_isWide_20 : decode cX8_isWide 20 = .ok (.aload_n 0, 1) := by decide +kernel
theorem dX8_isWide_21 : decode cX8_isWide 21 = .ok (.lload 7, 2) := by decide +kernel
theorem dX8_isWide_23 : decode cX8_isWide 23 = .ok (.invokevirtual 212, 3) := by decide +kernel
theorem dX8_isWide_26 : decode cX8_isWide 26 = .ok (.invokevirtual 216, 3) := by decide +kernel
theorem dX8_isWide_29 : decode cX8_isWide 29 = .ok (.istore 9, 2) := by decide +kernel
theorem dX8_isWide_31 : decode cX8_isWide 31 = .ok (.aload_n 0, 1) := by decide +kernel
theorem dX8_isWide_32 : decode cX8_isWide 32 = .ok (.aload_n 0, 1) := by decide +kernel
theorem dX8_isWide_33 : decode cX8_isWide 33 = .ok (.aload_n 0, 1) := by decide +kernel
theorem dX8_isWide_34 : decode cX8_isWide 34 = .ok (.aload_n 0, 1) := by decide +kernel
theorem dX8_isWide_35 : decode cX8_isWide 35 = .ok (.lload_n 3, 1) := by decide +kernel
theorem dX8_isWide_36 : decode cX8_isWide 36 = .ok (.invokevirtual 212, 3) := by decide +kernel
theorem dX8_isWide_39 : decode cX8_isWide 39 = .ok (.aload_n 0, 1) := by decide +kernel
theorem dX8_isWide_40 : decode cX8_isWide 40 = .ok (.lload_n 3, 1) := by decide +kernel
theorem dX8_isWide_41 : decode cX8_isWide 41 = .ok (.invokevirtual 212, 3) := by decide +kernel
theorem dX8_isWide_44 : decode cX8_isWide 44 = .ok (.invokevirtual 216, 3) := by decide +kernel
theorem dX8_isWide_47 : decode cX8_isWide 47 = .ok (.aload_n 0, 1) := by decide +kernel
theorem dX8_isWide_48 : decode cX8_isWide 48 = .ok (.lload 5, 2) := by decide +kernel
theorem dX8_isWide_50 : decode cX8_isWide 50 = .ok (.invokevirtual 212, 3) := by decide +kernel
theorem dX8_isWide_53 : decode cX8_isWide 53 = .ok (.invokevirtual 216, 3) := by decide +kernel
theorem dX8_isWide_56 : decode cX8_isWide 56 = .ok (.aload_n 0, 1) := by decide +kernel
theorem dX8_isWide_57 : decode cX8_isWide 57 = .ok (.ldc2_w 186, 3) := by decide +kernel
theorem dX8_isWide_60 : decode cX8_isWide 60 = .ok (.invokevirtual 212, 3) := by decide +kernel
theorem dX8_isWide_63 : decode cX8_isWide 63 = .ok (.invokevirtual 216, 3) := by decide +kernel
theorem dX8_isWide_66 : decode cX8_isWide 66 = .ok (.istore 10, 2) := by decide +kernel
theorem dX8_isWide_68 : decode cX8_isWide 68 = .ok (.aload_n 0, 1) := by decide +kernel
theorem dX8_isWide_69 : decode cX8_isWide 69 = .ok (.iload 9, 2) := by decide +kernel
theorem dX8_isWide_71 : decode cX8_isWide 71 = .ok (.iload 10, 2) := by decide +kernel
theorem dX8_isWide_73 : decode cX8_isWide 73 = .ok (.invokevirtual 219, 3) := by decide +kernel
theorem dX8_isWide_76 : decode cX8_isWide 76 = .ok (.ifCond .le 7, 3) := by decide +kernel
theorem dX8_isWide_79 : decode cX8_isWide 79 = .ok (.iconst 1, 1) := by decide +kernel
theorem dX8_isWide_80 : decode cX8_isWide 80 = .ok (.goto 4, 3) := by decide +kernel
theorem dX8_isWide_83 : decode cX8_isWide 83 = .ok (.iconst 0, 1) := by decide +kernel
theorem dX8_isWide_84 : decode cX8_isWide 84 = .ok (.ireturn, 1) := by decide +kernel
set_option maxRecDepth 20000 in
theorem ggX8_ahead_X8_areTwo : GoodIn wsX8_ahead wsX8_areTwo := goodIn_r _ [8, 9, 10, 11, 7, 12, 13, 14, 15, 16, 104, 105, 106, 107, 108, 109, 110, 111, 112, 113, 114, 115, 116, 117, 118, 119, 120, 121, 122, 123, 124, 125, 126, 127, 128, 129, 130, 131, 132, 133, 134, 135] (by decide +kernel) (by decide +kernel)
set_option maxRecDepth 20000 in
theorem gX8_ahead_X8_areTwo : GoodIn wsX8_ahead (wsV RX8 176 RX8 yX8_areTwo wsX8_areTwo) := goodIn_app (goodIn_of _ (by decide +kernel)) ggX8_ahead_X8_areTwo
set_option maxRecDepth 20000 in
theorem ggX8_ahead_X8_refuse : GoodIn wsX8_ahead wsX8_refuse := goodIn_r _ [20, 3, 104, 105, 106, 107, 108, 109, 110, 111, 112, 113, 114, 115, 116, 117, 118, 119, 120, 121, 122, 123, 124, 125, 126, 127, 128, 129, 130, 131, 132, 133, 134, 135] (by decide +kernel) (by decide +kernel)
set_option maxRecDepth 20000 in
theorem gX8_ahead_X8_refuse : GoodIn wsX8_ahead (wsV RX8 110 RX8 yX8_refuse wsX8_refuse) := goodIn_app (goodIn_of _ (by decide +kernel)) ggX8_ahead_X8_refuse
set_option maxRecDepth 20000 in
theorem ggX8_ahead_X8_doubts : GoodIn wsX8_ahead wsX8_doubts := goodIn_r _ [24, 1, 2, 25, 26, 27, 28, 29, 30, 31, 32, 33, 7, 34, 35, 36, 37, 38, 39, 40, 41, 42, 43, 44, 45, 13, 46, 47, 48, 49, 50, 51, 52, 53, 54, 55, 56, 57, 58, 104, 105, 106, 107, 108, 109, 110, 111, 112, 113, 114, 115, 116, 117, 118, 119, 120, 121, 122, 123, 124, 125, 126, 127, 128, 129, 130, 131, 132, 133, 134, 135] (by decide +kernel) (by decide +kernel)
set_option maxRecDepth 20000 in
theorem gX8_ahead_X8_doubts : GoodIn wsX8_ahead (wsV RX8 183 RX8 yX8_doubts wsX8_doubts) := goodIn_app (goodIn_of _ (by decide +kernel)) ggX8_ahead_X8_doubts
set_option maxRecDepth 20000 in
theorem ggX8_ahead_X8_sums : GoodIn wsX8_ahead wsX8_sums := goodIn_r _ [62, 1, 2, 25, 27, 28, 29, 30, 31, 32, 33, 7, 34, 35, 36, 37, 38, 39, 40, 41, 42, 43, 44, 45, 13, 46, 47, 48, 49, 50, 51, 52, 53, 54, 55, 56, 57, 58, 104, 105, 106, 107, 108, 109, 110, 111, 112, 113, 114, 115, 116, 117, 118, 119, 120, 121, 122, 123, 124, 125, 126, 127, 128, 129, 130, 131, 132, 133, 134, 135] (by decide +kernel) (by decide +kernel)
set_option maxRecDepth 20000 in
theorem gX8_ahead_X8_sums : GoodIn wsX8_ahead (wsV RX8 180 RX8 yX8_sums wsX8_sums) := goodIn_app (goodIn_of _ (by decide +kernel)) ggX8_ahead_X8_sums
set_option maxRecDepth 20000 in
theorem ggX8_ahead_X8_isWide : GoodIn wsX8_ahead wsX8_isWide := goodIn_r _ [66, 67, 68, 69, 70, 71, 7, 72, 73, 74, 75, 76, 77, 78, 79, 80, 81, 82, 83, 84, 85, 86, 87, 88, 89, 90, 91, 92, 93, 94, 95, 96, 97, 98, 104, 105, 106, 107, 108, 109, 110, 111, 112, 113, 114, 115, 116, 117, 118, 119, 120, 121, 122, 123, 124, 125, 126, 127, 128, 129, 130, 131, 132, 133, 134, 135] (by decide +kernel) (by decide +kernel)
set_option maxRecDepth 20000 in
theorem gX8_ahead_X8_isWide : GoodIn wsX8_ahead (wsV RX8 222 RX8 yX8_isWide wsX8_isWide) := goodIn_app (goodIn_of _ (by decide +kernel)) ggX8_ahead_X8_isWide
set_option maxRecDepth 20000 in
theorem ggX8_ahead_X8_worsts : GoodIn wsX8_ahead wsX8_worsts := goodIn_r _ [102, 1, 2, 25, 27, 28, 29, 47, 30, 103, 35, 36, 37, 7, 38, 39, 40, 41, 42, 43, 44, 45, 13, 46, 48, 49, 50, 51, 52, 53, 54, 55, 56, 57, 58, 104, 105, 106, 107, 108, 109, 110, 111, 112, 113, 114, 115, 116, 117, 118, 119, 120, 121, 122, 123, 124, 125, 126, 127, 128, 129, 130, 131, 132, 133, 134, 135] (by decide +kernel) (by decide +kernel)
set_option maxRecDepth 20000 in
theorem gX8_ahead_X8_worsts : GoodIn wsX8_ahead (wsV RX8 190 RX8 yX8_worsts wsX8_worsts) := goodIn_app (goodIn_of _ (by decide +kernel)) ggX8_ahead_X8_worsts
theorem dX8_ahead_0 : decode cX8_ahead 0 = .ok (.aload_n 0, 1) := by decide +kernel
theorem dX8_ahead_1 : decode cX8_ahead 1 = .ok (.iload_n 1, 1) := by decide +kernel
theorem dX8_ahead_2 : decode cX8_ahead 2 = .ok (.iload_n 2, 1) := by decide +kernel
theorem dX8_ahead_3 : decode cX8_ahead 3 = .ok (.iload_n 3, 1) := by decide +kernel
theorem dX8_ahead_4 : decode cX8_ahead 4 = .ok (.invokevirtual 176, 3) := by decide +kernel
theorem dX8_ahead_7 : decode cX8_ahead 7 = .ok (.ifCond .eq 8, 3) := by decide +kernel
theorem dX8_ahead_10 : decode cX8_ahead 10 = .ok (.iload_n 2, 1) := by decide +kernel
theorem dX8_ahead_11 : decode cX8_ahead 11 = .ok (.iconst (-1), 1) := by decide +kernel
theorem dX8_ahead_12 : decode cX8_ahead 12 = .ok (.if_icmp .ne 9, 3) := by decide +kernel
theorem dX8_ahead_15 : decode cX8_ahead 15 = .ok (.aload_n 0, 1) := by decide +kernel
theorem dX8_ahead_16 : decode cX8_ahead 16 = .ok (.iconst 1, 1) := by decide +kernel
theorem dX8_ahead_17 : decode cX8_ahead 17 = .ok (.invokevirtual 110, 3) := by decide +kernel
theorem dX8_ahead_20 : decode cX8_ahead 20 = .ok (.ireturn, 1) := by decide +kernel
theorem dX8_ahead_21 : decode cX8_ahead 21 = .ok (.aload_n 0, 1) := by decide +kernel
theorem dX8_ahead_22 : decode cX8_ahead 22 = .ok (.iload_n 1, 1) := by decide +kernel
theorem dX8_ahead_23 : decode cX8_ahead 23 = .ok (.iload_n 2, 1) := by decide +kernel
theorem dX8_ahead_24 : decode cX8_ahead 24 = .ok (.iload_n 3, 1) := by decide +kernel
theorem dX8_ahead_25 : decode cX8_ahead 25 = .ok (.invokevirtual 183, 3) := by decide +kernel
theorem dX8_ahead_28 : decode cX8_ahead 28 = .ok (.ifCond .ne 9, 3) := by decide +kernel
theorem dX8_ahead_31 : decode cX8_ahead 31 = .ok (.aload_n 0, 1) := by decide +kernel
theorem dX8_ahead_32 : decode cX8_ahead 32 = .ok (.iconst 5, 1) := by decide +kernel
theorem dX8_ahead_33 : decode cX8_ahead 33 = .ok (.invokevirtual 110, 3) := by decide +kernel
theorem dX8_ahead_36 : decode cX8_ahead 36 = .ok (.ireturn, 1) := by decide +kernel
theorem dX8_ahead_37 : decode cX8_ahead 37 = .ok (.aload_n 0, 1) := by decide +kernel
theorem dX8_ahead_38 : decode cX8_ahead 38 = .ok (.getfield 160, 3) := by decide +kernel
theorem dX8_ahead_41 : decode cX8_ahead 41 = .ok (.lstore 4, 2) := by decide +kernel
theorem dX8_ahead_43 : decode cX8_ahead 43 = .ok (.aload_n 0, 1) := by decide +kernel
theorem dX8_ahead_44 : decode cX8_ahead 44 = .ok (.getfield 157, 3) := by decide +kernel
theorem dX8_ahead_47 : decode cX8_ahead 47 = .ok (.lstore 6, 2) := by decide +kernel
theorem dX8_ahead_49 : decode cX8_ahead 49 = .ok (.aload_n 0, 1) := by decide +kernel
theorem dX8_ahead_50 : decode cX8_ahead 50 = .ok (.iload_n 1, 1) := by decide +kernel
theorem dX8_ahead_51 : decode cX8_ahead 51 = .ok (.iload_n 2, 1) := by decide +kernel
theorem dX8_ahead_52 : decode cX8_ahead 52 = .ok (.iload_n 3, 1) := by decide +kernel
theorem dX8_ahead_53 : decode cX8_ahead 53 = .ok (.invokevirtual 180, 3) := by decide +kernel
theorem dX8_ahead_56 : decode cX8_ahead 56 = .ok (.istore 8, 2) := by decide +kernel
theorem dX8_ahead_58 : decode cX8_ahead 58 = .ok (.aload_n 0, 1) := by decide +kernel
theorem dX8_ahead_59 : decode cX8_ahead 59 = .ok (.iconst 0, 1) := by decide +kernel
theorem dX8_ahead_60 : decode cX8_ahead 60 = .ok (.putfield 74, 3) := by decide +kernel
theorem dX8_ahead_63 : decode cX8_ahead 63 = .ok (.iload 8, 2) := by decide +kernel
theorem dX8_ahead_65 : decode cX8_ahead 65 = .ok (.ifCond .eq 31, 3) := by decide +kernel
theorem dX8_ahead_68 : decode cX8_ahead 68 = .ok (.aload_n 0, 1) := by decide +kernel
theorem dX8_ahead_69 : decode cX8_ahead 69 = .ok (.getfield 160, 3) := by decide +kernel
theorem dX8_ahead_72 : decode cX8_ahead 72 = .ok (.lconst 0, 1) := by decide +kernel
theorem dX8_ahead_73 : decode cX8_ahead 73 = .ok (.lcmp, 1) := by decide +kernel
theorem dX8_ahead_74 : decode cX8_ahead 74 = .ok (.ifCond .le 22, 3) := by decide +kernel
theorem dX8_ahead_77 : decode cX8_ahead 77 = .ok (.aload_n 0, 1) := by decide +kernel
theorem dX8_ahead_78 : decode cX8_ahead 78 = .ok (.aload_n 0, 1) := by decide +kernel
theorem dX8_ahead_79 : decode cX8_ahead 79 = .ok (.getfield 160, 3) := by decide +kernel
theorem dX8_ahead_82 : decode cX8_ahead 82 = .ok (.aload_n 0, 1) := by decide +kernel
theorem dX8_ahead_83 : decode cX8_ahead 83 = .ok (.getfield 157, 3) := by decide +kernel
theorem dX8_ahead_86 : decode cX8_ahead 86 = .ok (.lload 4, 2) := by decide +kernel
theorem dX8_ahead_88 : decode cX8_ahead 88 = .ok (.lload 6, 2) := by decide +kernel
theorem dX8_ahead_90 : decode cX8_ahead 90 = .ok (.invokevirtual 222, 3) := by decide +kernel
theorem dX8_ahead_93 : decode cX8_ahead 93 = .ok (.ifCond .ne 5, 3) := by decide +kernel
theorem dX8_ahead_96 : decode cX8_ahead 96 = .ok (.iconst 0, 1) := by decide +kernel
theorem dX8_ahead_97 : decode cX8_ahead 97 = .ok (.ireturn, 1) := by decide +kernel
theorem dX8_ahead_98 : decode cX8_ahead 98 = .ok (.aload_n 0, 1) := by decide +kernel
theorem dX8_ahead_99 : decode cX8_ahead 99 = .ok (.iload_n 1, 1) := by decide +kernel
theorem dX8_ahead_100 : decode cX8_ahead 100 = .ok (.iload_n 3, 1) := by decide +kernel
theorem dX8_ahead_101 : decode cX8_ahead 101 = .ok (.iconst 0, 1) := by decide +kernel
theorem dX8_ahead_102 : decode cX8_ahead 102 = .ok (.invokevirtual 190, 3) := by decide +kernel
theorem dX8_ahead_105 : decode cX8_ahead 105 = .ok (.istore 8, 2) := by decide +kernel
theorem dX8_ahead_107 : decode cX8_ahead 107 = .ok (.aload_n 0, 1) := by decide +kernel
theorem dX8_ahead_108 : decode cX8_ahead 108 = .ok (.getfield 160, 3) := by decide +kernel
theorem dX8_ahead_111 : decode cX8_ahead 111 = .ok (.lstore 4, 2) := by decide +kernel
theorem dX8_ahead_113 : decode cX8_ahead 113 = .ok (.aload_n 0, 1) := by decide +kernel
theorem dX8_ahead_114 : decode cX8_ahead 114 = .ok (.getfield 157, 3) := by decide +kernel
theorem dX8_ahead_117 : decode cX8_ahead 117 = .ok (.lstore 6, 2) := by decide +kernel
theorem dX8_ahead_119 : decode cX8_ahead 119 = .ok (.aload_n 0, 1) := by decide +kernel
theorem dX8_ahead_120 : decode cX8_ahead 120 = .ok (.iload_n 2, 1) := by decide +kernel
theorem dX8_ahead_121 : decode cX8_ahead 121 = .ok (.iload_n 3, 1) := by decide +kernel
theorem dX8_ahead_122 : decode cX8_ahead 122 = .ok (.iconst 1, 1) := by decide +kernel
theorem dX8_ahead_123 : decode cX8_ahead 123 = .ok (.invokevirtual 190, 3) := by decide +kernel
theorem dX8_ahead_126 : decode cX8_ahead 126 = .ok (.istore 8, 2) := by decide +kernel
theorem dX8_ahead_128 : decode cX8_ahead 128 = .ok (.lload 4, 2) := by decide +kernel
theorem dX8_ahead_130 : decode cX8_ahead 130 = .ok (.aload_n 0, 1) := by decide +kernel
theorem dX8_ahead_131 : decode cX8_ahead 131 = .ok (.getfield 157, 3) := by decide +kernel
theorem dX8_ahead_134 : decode cX8_ahead 134 = .ok (.lmul, 1) := by decide +kernel
theorem dX8_ahead_135 : decode cX8_ahead 135 = .ok (.aload_n 0, 1) := by decide +kernel
theorem dX8_ahead_136 : decode cX8_ahead 136 = .ok (.getfield 160, 3) := by decide +kernel
theorem dX8_ahead_139 : decode cX8_ahead 139 = .ok (.lload 6, 2) := by decide +kernel
theorem dX8_ahead_141 : decode cX8_ahead 141 = .ok (.lmul, 1) := by decide +kernel
theorem dX8_ahead_142 : decode cX8_ahead 142 = .ok (.lcmp, 1) := by decide +kernel
theorem dX8_ahead_143 : decode cX8_ahead 143 = .ok (.ifCond .le 7, 3) := by decide +kernel
theorem dX8_ahead_146 : decode cX8_ahead 146 = .ok (.iconst 2, 1) := by decide +kernel
theorem dX8_ahead_147 : decode cX8_ahead 147 = .ok (.goto 4, 3) := by decide +kernel
theorem dX8_ahead_150 : decode cX8_ahead 150 = .ok (.iconst 1, 1) := by decide +kernel
theorem dX8_ahead_151 : decode cX8_ahead 151 = .ok (.ireturn, 1) := by decide +kernel
set_option maxRecDepth 20000 in
theorem ggX8_official_X8_isTray : GoodIn wsX8_official wsX8_isTray := goodIn_r _ [11] (by decide +kernel) (by decide +kernel)
set_option maxRecDepth 20000 in
theorem gX8_official_X8_isTray : GoodIn wsX8_official (va_wsS RX8 80 yX8_isTray wsX8_isTray) := goodIn_app (goodIn_of _ (by decide +kernel)) ggX8_official_X8_isTray
set_option maxRecDepth 20000 in
theorem ggX8_official_X8_isPoll : GoodIn wsX8_official wsX8_isPoll := goodIn_r _ [15, 16, 22, 23, 24, 25, 26, 27, 28, 29, 30, 31, 32, 33, 34, 35, 36, 37, 38, 39, 40, 41, 42, 43, 44, 45, 46, 47, 48, 49, 50, 51, 52, 53] (by decide +kernel) (by decide +kernel)
set_option maxRecDepth 20000 in
theorem gX8_official_X8_isPoll : GoodIn wsX8_official (wsV RX8 122 RX8 yX8_isPoll wsX8_isPoll) := goodIn_app (goodIn_of _ (by decide +kernel)) ggX8_official_X8_isPoll
set_option maxRecDepth 20000 in
theorem ggX8_official_X8_is : GoodIn wsX8_official wsX8_is := goodIn_r _ [20, 21, 22, 23, 24, 25, 26, 27, 28, 29, 30, 31, 32, 33, 34, 35, 36, 37, 38, 39, 40, 41, 42, 43, 44, 45, 46, 47, 48, 49, 50, 51, 52, 53] (by decide +kernel) (by decide +kernel)
set_option maxRecDepth 20000 in
theorem gX8_official_X8_is : GoodIn wsX8_official (wsV RX8 84 RX8 yX8_is wsX8_is) := goodIn_app (goodIn_of _ (by decide +kernel)) ggX8_official_X8_is
theorem dX8_official_0 : decode cX8_official 0 = .ok (.iload_n 2, 1) := by decide +kernel
theorem dX8_official_1 : decode cX8_official 1 = .ok (.invokestatic 80, 3) := by decide +kernel
theorem dX8_official_4 : decode cX8_official 4 = .ok (.ifCond .eq 11, 3) := by decide +kernel
theorem dX8_official_7 : decode cX8_official 7 = .ok (.aload_n 0, 1) := by decide +kernel
theorem dX8_official_8 : decode cX8_official 8 = .ok (.iload_n 1, 1) := by decide +kernel
theorem dX8_official_9 : decode cX8_official 9 = .ok (.invokevirtual 122, 3) := by decide +kernel
theorem dX8_official_12 : decode cX8_official 12 = .ok (.ifCond .ne 9, 3) := by decide +kernel
theorem dX8_official_15 : decode cX8_official 15 = .ok (.aload_n 0, 1) := by decide +kernel
theorem dX8_official_16 : decode cX8_official 16 = .ok (.iconst 1, 1) := by decide +kernel
theorem dX8_official_17 : decode cX8_official 17 = .ok (.invokevirtual 84, 3) := by decide +kernel
theorem dX8_official_20 : decode cX8_official 20 = .ok (.ireturn, 1) := by decide +kernel
theorem dX8_official_21 : decode cX8_official 21 = .ok (.aload_n 0, 1) := by decide +kernel
theorem dX8_official_22 : decode cX8_official 22 = .ok (.getfield 17, 3) := by decide +kernel
theorem dX8_official_25 : decode cX8_official 25 = .ok (.iload_n 2, 1) := by decide +kernel
theorem dX8_official_26 : decode cX8_official 26 = .ok (.iaload, 1) := by decide +kernel
theorem dX8_official_27 : decode cX8_official 27 = .ok (.iconst (-1), 1) := by decide +kernel
theorem dX8_official_28 : decode cX8_official 28 = .ok (.if_icmp .ne 9, 3) := by decide +kernel
theorem dX8_official_31 : decode cX8_official 31 = .ok (.aload_n 0, 1) := by decide +kernel
theorem dX8_official_32 : decode cX8_official 32 = .ok (.iconst 3, 1) := by decide +kernel
theorem dX8_official_33 : decode cX8_official 33 = .ok (.invokevirtual 84, 3) := by decide +kernel
theorem dX8_official_36 : decode cX8_official 36 = .ok (.ireturn, 1) := by decide +kernel
theorem dX8_official_37 : decode cX8_official 37 = .ok (.aload_n 0, 1) := by decide +kernel
theorem dX8_official_38 : decode cX8_official 38 = .ok (.getfield 17, 3) := by decide +kernel
theorem dX8_official_41 : decode cX8_official 41 = .ok (.iload_n 2, 1) := by decide +kernel
theorem dX8_official_42 : decode cX8_official 42 = .ok (.iaload, 1) := by decide +kernel
theorem dX8_official_43 : decode cX8_official 43 = .ok (.aload_n 0, 1) := by decide +kernel
theorem dX8_official_44 : decode cX8_official 44 = .ok (.getfield 24, 3) := by decide +kernel
theorem dX8_official_47 : decode cX8_official 47 = .ok (.if_icmp .ge 9, 3) := by decide +kernel
theorem dX8_official_50 : decode cX8_official 50 = .ok (.aload_n 0, 1) := by decide +kernel
theorem dX8_official_51 : decode cX8_official 51 = .ok (.iconst 4, 1) := by decide +kernel
theorem dX8_official_52 : decode cX8_official 52 = .ok (.invokevirtual 84, 3) := by decide +kernel
theorem dX8_official_55 : decode cX8_official 55 = .ok (.ireturn, 1) := by decide +kernel
theorem dX8_official_56 : decode cX8_official 56 = .ok (.iconst 0, 1) := by decide +kernel
theorem dX8_official_57 : decode cX8_official 57 = .ok (.istore_n 3, 1) := by decide +kernel
theorem dX8_official_58 : decode cX8_official 58 = .ok (.iload_n 3, 1) := by decide +kernel
theorem dX8_official_59 : decode cX8_official 59 = .ok (.aload_n 0, 1) := by decide +kernel
theorem dX8_official_60 : decode cX8_official 60 = .ok (.getfield 24, 3) := by decide +kernel
theorem dX8_official_63 : decode cX8_official 63 = .ok (.if_icmp .ge 49, 3) := by decide +kernel
theorem dX8_official_66 : decode cX8_official 66 = .ok (.aload_n 0, 1) := by decide +kernel
theorem dX8_official_67 : decode cX8_official 67 = .ok (.getfield 20, 3) := by decide +kernel
theorem dX8_official_70 : decode cX8_official 70 = .ok (.bipush 20, 2) := by decide +kernel
theorem dX8_official_72 : decode cX8_official 72 = .ok (.iload_n 2, 1) := by decide +kernel
theorem dX8_official_73 : decode cX8_official 73 = .ok (.imul, 1) := by decide +kernel
theorem dX8_official_74 : decode cX8_official 74 = .ok (.iload_n 3, 1) := by decide +kernel
theorem dX8_official_75 : decode cX8_official 75 = .ok (.iadd, 1) := by decide +kernel
theorem dX8_official_76 : decode cX8_official 76 = .ok (.laload, 1) := by decide +kernel
theorem dX8_official_77 : decode cX8_official 77 = .ok (.lconst 0, 1) := by decide +kernel
theorem dX8_official_78 : decode cX8_official 78 = .ok (.lcmp, 1) := by decide +kernel
theorem dX8_official_79 : decode cX8_official 79 = .ok (.ifCond .lt 21, 3) := by decide +kernel
theorem dX8_official_82 : decode cX8_official 82 = .ok (.aload_n 0, 1) := by decide +kernel
theorem dX8_official_83 : decode cX8_official 83 = .ok (.getfield 20, 3) := by decide +kernel
theorem dX8_official_86 : decode cX8_official 86 = .ok (.bipush 20, 2) := by decide +kernel
theorem dX8_official_88 : decode cX8_official 88 = .ok (.iload_n 2, 1) := by decide +kernel
theorem dX8_official_89 : decode cX8_official 89 = .ok (.imul, 1) := by decide +kernel
theorem dX8_official_90 : decode cX8_official 90 = .ok (.iload_n 3, 1) := by decide +kernel
theorem dX8_official_91 : decode cX8_official 91 = .ok (.iadd, 1) := by decide +kernel
theorem dX8_official_92 : decode cX8_official 92 = .ok (.laload, 1) := by decide +kernel
theorem dX8_official_93 : decode cX8_official 93 = .ok (.ldc2_w 135, 3) := by decide +kernel
theorem dX8_official_96 : decode cX8_official 96 = .ok (.lcmp, 1) := by decide +kernel
theorem dX8_official_97 : decode cX8_official 97 = .ok (.ifCond .le 9, 3) := by decide +kernel
theorem dX8_official_100 : decode cX8_official 100 = .ok (.aload_n 0, 1) := by decide +kernel
theorem dX8_official_101 : decode cX8_official 101 = .ok (.iconst 1, 1) := by decide +kernel
theorem dX8_official_102 : decode cX8_official 102 = .ok (.invokevirtual 84, 3) := by decide +kernel
theorem dX8_official_105 : decode cX8_official 105 = .ok (.ireturn, 1) := by decide +kernel
theorem dX8_official_106 : decode cX8_official 106 = .ok (.iinc 3 1, 3) := by decide +kernel
theorem dX8_official_109 : decode cX8_official 109 = .ok (.goto (-51), 3) := by decide +kernel
theorem dX8_official_112 : decode cX8_official 112 = .ok (.iconst 0, 1) := by decide +kernel
theorem dX8_official_113 : decode cX8_official 113 = .ok (.istore_n 3, 1) := by decide +kernel
theorem dX8_official_114 : decode cX8_official 114 = .ok (.iload_n 3, 1) := by decide +kernel
theorem dX8_official_115 : decode cX8_official 115 = .ok (.aload_n 0, 1) := by decide +kernel
theorem dX8_official_116 : decode cX8_official 116 = .ok (.getfield 24, 3) := by decide +kernel
theorem dX8_official_119 : decode cX8_official 119 = .ok (.if_icmp .ge 31, 3) := by decide +kernel
theorem dX8_official_122 : decode cX8_official 122 = .ok (.aload_n 0, 1) := by decide +kernel
theorem dX8_official_123 : decode cX8_official 123 = .ok (.getfield 68, 3) := by decide +kernel
theorem dX8_official_126 : decode cX8_official 126 = .ok (.iconst 4, 1) := by decide +kernel
theorem dX8_official_127 : decode cX8_official 127 = .ok (.iload_n 1, 1) := by decide +kernel
theorem dX8_official_128 : decode cX8_official 128 = .ok (.imul, 1) := by decide +kernel
theorem dX8_official_129 : decode cX8_official 129 = .ok (.iload_n 3, 1) := by decide +kernel
theorem dX8_official_130 : decode cX8_official 130 = .ok (.iadd, 1) := by decide +kernel
theorem dX8_official_131 : decode cX8_official 131 = .ok (.aload_n 0, 1) := by decide +kernel
theorem dX8_official_132 : decode cX8_official 132 = .ok (.getfield 20, 3) := by decide +kernel
theorem dX8_official_135 : decode cX8_official 135 = .ok (.bipush 20, 2) := by decide +kernel
theorem dX8_official_137 : decode cX8_official 137 = .ok (.iload_n 2, 1) := by decide +kernel
theorem dX8_official_138 : decode cX8_official 138 = .ok (.imul, 1) := by decide +kernel
theorem dX8_official_139 : decode cX8_official 139 = .ok (.iload_n 3, 1) := by decide +kernel
theorem dX8_official_140 : decode cX8_official 140 = .ok (.iadd, 1) := by decide +kernel
theorem dX8_official_141 : decode cX8_official 141 = .ok (.laload, 1) := by decide +kernel
theorem dX8_official_142 : decode cX8_official 142 = .ok (.l2i, 1) := by decide +kernel
theorem dX8_official_143 : decode cX8_official 143 = .ok (.iastore, 1) := by decide +kernel
theorem dX8_official_144 : decode cX8_official 144 = .ok (.iinc 3 1, 3) := by decide +kernel
theorem dX8_official_147 : decode cX8_official 147 = .ok (.goto (-33), 3) := by decide +kernel
theorem dX8_official_150 : decode cX8_official 150 = .ok (.aload_n 0, 1) := by decide +kernel
theorem dX8_official_151 : decode cX8_official 151 = .ok (.getfield 50, 3) := by decide +kernel
theorem dX8_official_154 : decode cX8_official 154 = .ok (.iload_n 1, 1) := by decide +kernel
theorem dX8_official_155 : decode cX8_official 155 = .ok (.iconst 1, 1) := by decide +kernel
theorem dX8_official_156 : decode cX8_official 156 = .ok (.bastore, 1) := by decide +kernel
theorem dX8_official_157 : decode cX8_official 157 = .ok (.aload_n 0, 1) := by decide +kernel
theorem dX8_official_158 : decode cX8_official 158 = .ok (.iconst 1, 1) := by decide +kernel
theorem dX8_official_159 : decode cX8_official 159 = .ok (.putfield 103, 3) := by decide +kernel
theorem dX8_official_162 : decode cX8_official 162 = .ok (.aload_n 0, 1) := by decide +kernel
theorem dX8_official_163 : decode cX8_official 163 = .ok (.iconst 0, 1) := by decide +kernel
theorem dX8_official_164 : decode cX8_official 164 = .ok (.invokevirtual 84, 3) := by decide +kernel
theorem dX8_official_167 : decode cX8_official 167 = .ok (.ireturn, 1) := by decide +kernel
set_option maxRecDepth 20000 in
theorem ggX8_areBoth_X8_knownOf : GoodIn wsX8_areBoth wsX8_knownOf := goodIn_r _ [6, 7, 8, 9, 10, 11, 12, 5, 13, 14, 15, 16, 17, 18, 19, 20, 21, 22, 23, 24, 25, 26, 27, 28, 29, 30, 31, 32, 33, 34, 35, 36, 37, 38, 39, 40, 41, 42, 43, 44, 45, 46, 47, 48] (by decide +kernel) (by decide +kernel)
set_option maxRecDepth 20000 in
theorem gX8_areBoth_X8_knownOf : GoodIn wsX8_areBoth (wsV RX8 147 RX8 yX8_knownOf wsX8_knownOf) := goodIn_app (goodIn_of _ (by decide +kernel)) ggX8_areBoth_X8_knownOf
theorem dX8_areBoth_0 : decode cX8_areBoth 0 = .ok (.aload_n 0, 1) := by decide +kernel
theorem dX8_areBoth_1 : decode cX8_areBoth 1 = .ok (.getfield 50, 3) := by decide +kernel
theorem dX8_areBoth_4 : decode cX8_areBoth 4 = .ok (.iload_n 1, 1) := by decide +kernel
theorem dX8_areBoth_5 : decode cX8_areBoth 5 = .ok (.baload, 1) := by decide +kernel
theorem dX8_areBoth_6 : decode cX8_areBoth 6 = .ok (.ifCond .eq 17, 3) := by decide +kernel
theorem dX8_areBoth_9 : decode cX8_areBoth 9 = .ok (.aload_n 0, 1) := by decide +kernel
theorem dX8_areBoth_10 : decode cX8_areBoth 10 = .ok (.iload_n 1, 1) := by decide +kernel
theorem dX8_areBoth_11 : decode cX8_areBoth 11 = .ok (.iload_n 2, 1) := by decide +kernel
theorem dX8_areBoth_12 : decode cX8_areBoth 12 = .ok (.invokevirtual 147, 3) := by decide +kernel
theorem dX8_areBoth_15 : decode cX8_areBoth 15 = .ok (.iconst (-1), 1) := by decide +kernel
theorem dX8_areBoth_16 : decode cX8_areBoth 16 = .ok (.if_icmp .eq 7, 3) := by decide +kernel
theorem dX8_areBoth_19 : decode cX8_areBoth 19 = .ok (.iconst 1, 1) := by decide +kernel
theorem dX8_areBoth_20 : decode cX8_areBoth 20 = .ok (.goto 4, 3) := by decide +kernel
theorem dX8_areBoth_23 : decode cX8_areBoth 23 = .ok (.iconst 0, 1) := by decide +kernel
theorem dX8_areBoth_24 : decode cX8_areBoth 24 = .ok (.ireturn, 1) := by decide +kernel
set_option maxRecDepth 20000 in
theorem ggX8_offOf_X8_knownOf : GoodIn wsX8_offOf wsX8_knownOf := goodIn_r _ [7, 8, 9, 10, 11, 12, 13, 6, 14, 15, 2, 16, 17, 18, 19, 20, 21, 22, 23, 24, 25, 26, 27, 28, 29, 30, 31, 32, 33, 34, 35, 36, 37, 38, 39, 40, 41, 42, 43, 44, 45, 46, 47, 48] (by decide +kernel) (by decide +kernel)
set_option maxRecDepth 20000 in
theorem gX8_offOf_X8_knownOf : GoodIn wsX8_offOf (wsV RX8 147 RX8 yX8_knownOf wsX8_knownOf) := goodIn_app (goodIn_of _ (by decide +kernel)) ggX8_offOf_X8_knownOf
theorem dX8_offOf_0 : decode cX8_offOf 0 = .ok (.aload_n 0, 1) := by decide +kernel
theorem dX8_offOf_1 : decode cX8_offOf 1 = .ok (.getfield 68, 3) := by decide +kernel
theorem dX8_offOf_4 : decode cX8_offOf 4 = .ok (.iconst 4, 1) := by decide +kernel
theorem dX8_offOf_5 : decode cX8_offOf 5 = .ok (.iload_n 1, 1) := by decide +kernel
theorem dX8_offOf_6 : decode cX8_offOf 6 = .ok (.imul, 1) := by decide +kernel
theorem dX8_offOf_7 : decode cX8_offOf 7 = .ok (.iload_n 2, 1) := by decide +kernel
theorem dX8_offOf_8 : decode cX8_offOf 8 = .ok (.iadd, 1) := by decide +kernel
theorem dX8_offOf_9 : decode cX8_offOf 9 = .ok (.iaload, 1) := by decide +kernel
theorem dX8_offOf_10 : decode cX8_offOf 10 = .ok (.aload_n 0, 1) := by decide +kernel
theorem dX8_offOf_11 : decode cX8_offOf 11 = .ok (.getfield 59, 3) := by decide +kernel
theorem dX8_offOf_14 : decode cX8_offOf 14 = .ok (.bipush 6, 2) := by decide +kernel
theorem dX8_offOf_16 : decode cX8_offOf 16 = .ok (.aload_n 0, 1) := by decide +kernel
theorem dX8_offOf_17 : decode cX8_offOf 17 = .ok (.iload_n 1, 1) := by decide +kernel
theorem dX8_offOf_18 : decode cX8_offOf 18 = .ok (.iload_n 3, 1) := by decide +kernel
theorem dX8_offOf_19 : decode cX8_offOf 19 = .ok (.invokevirtual 147, 3) := by decide +kernel
theorem dX8_offOf_22 : decode cX8_offOf 22 = .ok (.imul, 1) := by decide +kernel
theorem dX8_offOf_23 : decode cX8_offOf 23 = .ok (.iload_n 2, 1) := by decide +kernel
theorem dX8_offOf_24 : decode cX8_offOf 24 = .ok (.iadd, 1) := by decide +kernel
theorem dX8_offOf_25 : decode cX8_offOf 25 = .ok (.iaload, 1) := by decide +kernel
theorem dX8_offOf_26 : decode cX8_offOf 26 = .ok (.isub, 1) := by decide +kernel
theorem dX8_offOf_27 : decode cX8_offOf 27 = .ok (.ireturn, 1) := by decide +kernel
set_option maxRecDepth 20000 in
theorem ggX8_off_X8_isPoll : GoodIn wsX8_off wsX8_isPoll := goodIn_r _ [6, 7, 43, 44, 45, 46, 47, 48, 49, 50, 51, 52, 53, 54, 55, 56, 57, 58, 59, 60, 61, 62, 63, 64, 65, 66, 67, 68, 69, 70, 71, 72, 73, 74] (by decide +kernel) (by decide +kernel)
set_option maxRecDepth 20000 in
theorem gX8_off_X8_isPoll : GoodIn wsX8_off (wsV RX8 122 RX8 yX8_isPoll wsX8_isPoll) := goodIn_app (goodIn_of _ (by decide +kernel)) ggX8_off_X8_isPoll
set_option maxRecDepth 20000 in
theorem ggX8_off_X8_isParty : GoodIn wsX8_off wsX8_isParty := goodIn_r _ [11, 12, 43, 44, 45, 46, 47, 48, 49, 50, 51, 52, 53, 54, 55, 56, 57, 58, 59, 60, 61, 62, 63, 64, 65, 66, 67, 68, 69, 70, 71, 72, 73, 74] (by decide +kernel) (by decide +kernel)
set_option maxRecDepth 20000 in
theorem gX8_off_X8_isParty : GoodIn wsX8_off (wsV RX8 173 RX8 yX8_isParty wsX8_isParty) := goodIn_app (goodIn_of _ (by decide +kernel)) ggX8_off_X8_isParty
set_option maxRecDepth 20000 in
theorem ggX8_off_X8_isMinute : GoodIn wsX8_off wsX8_isMinute := goodIn_r _ [15] (by decide +kernel) (by decide +kernel)
set_option maxRecDepth 20000 in
theorem gX8_off_X8_isMinute : GoodIn wsX8_off (va_wsS RX8 129 yX8_isMinute wsX8_isMinute) := goodIn_app (goodIn_of _ (by decide +kernel)) ggX8_off_X8_isMinute
set_option maxRecDepth 20000 in
theorem ggX8_off_X8_refuse : GoodIn wsX8_off wsX8_refuse := goodIn_r _ [19, 1, 43, 44, 45, 46, 47, 48, 49, 50, 51, 52, 53, 54, 55, 56, 57, 58, 59, 60, 61, 62, 63, 64, 65, 66, 67, 68, 69, 70, 71, 72, 73, 74] (by decide +kernel) (by decide +kernel)
set_option maxRecDepth 20000 in
theorem gX8_off_X8_refuse : GoodIn wsX8_off (wsV RX8 110 RX8 yX8_refuse wsX8_refuse) := goodIn_app (goodIn_of _ (by decide +kernel)) ggX8_off_X8_refuse
set_option maxRecDepth 20000 in
theorem ggX8_off_X8_areBoth : GoodIn wsX8_off wsX8_areBoth := goodIn_r _ [23, 24, 25, 26, 27, 5, 28, 29, 30, 31, 32, 33, 34, 35, 12, 36, 37, 43, 44, 45, 46, 47, 48, 49, 50, 51, 52, 53, 54, 55, 56, 57, 58, 59, 60, 61, 62, 63, 64, 65, 66, 67, 68, 69, 70, 71, 72, 73, 74] (by decide +kernel) (by decide +kernel)
set_option maxRecDepth 20000 in
theorem gX8_off_X8_areBoth : GoodIn wsX8_off (wsV RX8 226 RX8 yX8_areBoth wsX8_areBoth) := goodIn_app (goodIn_of _ (by decide +kernel)) ggX8_off_X8_areBoth
set_option maxRecDepth 20000 in
theorem ggX8_off_X8_offOf : GoodIn wsX8_off wsX8_offOf := goodIn_r _ [41, 42, 36, 25, 26, 27, 5, 28, 29, 30, 31, 32, 33, 34, 35, 12, 37, 43, 44, 45, 46, 47, 48, 49, 50, 51, 52, 53, 54, 55, 56, 57, 58, 59, 60, 61, 62, 63, 64, 65, 66, 67, 68, 69, 70, 71, 72, 73, 74] (by decide +kernel) (by decide +kernel)
set_option maxRecDepth 20000 in
theorem gX8_off_X8_offOf : GoodIn wsX8_off (wsV RX8 230 RX8 yX8_offOf wsX8_offOf) := goodIn_app (goodIn_of _ (by decide +kernel)) ggX8_off_X8_offOf
theorem dX8_off_0 : decode cX8_off 0 = .ok (.aload_n 0, 1) := by decide +kernel
theorem dX8_off_1 : decode cX8_off 1 = .ok (.iload_n 1, 1) := by decide +kernel
theorem dX8_off_2 : decode cX8_off 2 = .ok (.invokevirtual 122, 3) := by decide +kernel
theorem dX8_off_5 : decode cX8_off 5 = .ok (.ifCond .eq 18, 3) := by decide +kernel
theorem dX8_off_8 : decode cX8_off 8 = .ok (.aload_n 0, 1) := by decide +kernel
theorem dX8_off_9 : decode cX8_off 9 = .ok (.iload_n 2, 1) := by decide +kernel
theorem dX8_off_10 : decode cX8_off 10 = .ok (.invokevirtual 173, 3) := by decide +kernel
theorem dX8_off_13 : decode cX8_off 13 = .ok (.ifCond .eq 10, 3) := by decide +kernel
theorem dX8_off_16 : decode cX8_off 16 = .ok (.iload_n 3, 1) := by decide +kernel
theorem dX8_off_17 : decode cX8_off 17 = .ok (.invokestatic 129, 3) := by decide +kernel
theorem dX8_off_20 : decode cX8_off 20 = .ok (.ifCond .ne 9, 3) := by decide +kernel
theorem dX8_off_23 : decode cX8_off 23 = .ok (.aload_n 0, 1) := by decide +kernel
theorem dX8_off_24 : decode cX8_off 24 = .ok (.iconst 1, 1) := by decide +kernel
theorem dX8_off_25 : decode cX8_off 25 = .ok (.invokevirtual 110, 3) := by decide +kernel
theorem dX8_off_28 : decode cX8_off 28 = .ok (.ireturn, 1) := by decide +kernel
theorem dX8_off_29 : decode cX8_off 29 = .ok (.aload_n 0, 1) := by decide +kernel
theorem dX8_off_30 : decode cX8_off 30 = .ok (.iload_n 1, 1) := by decide +kernel
theorem dX8_off_31 : decode cX8_off 31 = .ok (.iload_n 3, 1) := by decide +kernel
theorem dX8_off_32 : decode cX8_off 32 = .ok (.invokevirtual 226, 3) := by decide +kernel
theorem dX8_off_35 : decode cX8_off 35 = .ok (.ifCond .ne 10, 3) := by decide +kernel
theorem dX8_off_38 : decode cX8_off 38 = .ok (.aload_n 0, 1) := by decide +kernel
theorem dX8_off_39 : decode cX8_off 39 = .ok (.bipush 6, 2) := by decide +kernel
theorem dX8_off_41 : decode cX8_off 41 = .ok (.invokevirtual 110, 3) := by decide +kernel
theorem dX8_off_44 : decode cX8_off 44 = .ok (.ireturn, 1) := by decide +kernel
theorem dX8_off_45 : decode cX8_off 45 = .ok (.aload_n 0, 1) := by decide +kernel
theorem dX8_off_46 : decode cX8_off 46 = .ok (.iconst 0, 1) := by decide +kernel
theorem dX8_off_47 : decode cX8_off 47 = .ok (.putfield 74, 3) := by decide +kernel
theorem dX8_off_50 : decode cX8_off 50 = .ok (.aload_n 0, 1) := by decide +kernel
theorem dX8_off_51 : decode cX8_off 51 = .ok (.iload_n 1, 1) := by decide +kernel
theorem dX8_off_52 : decode cX8_off 52 = .ok (.iload_n 2, 1) := by decide +kernel
theorem dX8_off_53 : decode cX8_off 53 = .ok (.iload_n 3, 1) := by decide +kernel
theorem dX8_off_54 : decode cX8_off 54 = .ok (.invokevirtual 230, 3) := by decide +kernel
theorem dX8_off_57 : decode cX8_off 57 = .ok (.ireturn, 1) := by decide +kernel
set_option maxRecDepth 20000 in
theorem ggX8_gather_X8_areBoth : GoodIn wsX8_gather wsX8_areBoth := goodIn_r _ [9, 10, 11, 12, 13, 8, 14, 15, 16, 17, 18, 19, 20, 21, 22, 23, 24, 30, 31, 32, 33, 34, 35, 36, 37, 38, 39, 40, 41, 42, 43, 44, 45, 46, 47, 48, 49, 50, 51, 52, 53, 54, 55, 56, 57, 58, 59, 60, 61] (by decide +kernel) (by decide +kernel)
set_option maxRecDepth 20000 in
theorem gX8_gather_X8_areBoth : GoodIn wsX8_gather (wsV RX8 226 RX8 yX8_areBoth wsX8_areBoth) := goodIn_app (goodIn_of _ (by decide +kernel)) ggX8_gather_X8_areBoth
set_option maxRecDepth 20000 in
theorem ggX8_gather_X8_offOf : GoodIn wsX8_gather wsX8_offOf := goodIn_r _ [28, 29, 23, 11, 12, 13, 8, 14, 15, 16, 17, 18, 19, 20, 21, 22, 24, 30, 31, 32, 33, 34, 35, 36, 37, 38, 39, 40, 41, 42, 43, 44, 45, 46, 47, 48, 49, 50, 51, 52, 53, 54, 55, 56, 57, 58, 59, 60, 61] (by decide +kernel) (by decide +kernel)
set_option maxRecDepth 20000 in
theorem gX8_gather_X8_offOf : GoodIn wsX8_gather (wsV RX8 230 RX8 yX8_offOf wsX8_offOf) := goodIn_app (goodIn_of _ (by decide +kernel)) ggX8_gather_X8_offOf
theorem dX8_gather_0 : decode cX8_gather 0 = .ok (.aload_n 0, 1) := by decide +kernel
theorem dX8_gather_1 : decode cX8_gather 1 = .ok (.iconst 0, 1) := by decide +kernel
theorem dX8_gather_2 : decode cX8_gather 2 = .ok (.putfield 234, 3) := by decide +kernel
theorem dX8_gather_5 : decode cX8_gather 5 = .ok (.aload_n 0, 1) := by decide +kernel
theorem dX8_gather_6 : decode cX8_gather 6 = .ok (.iconst 0, 1) := by decide +kernel
theorem dX8_gather_7 : decode cX8_gather 7 = .ok (.putfield 237, 3) := by decide +kernel
theorem dX8_gather_10 : decode cX8_gather 10 = .ok (.aload_n 0, 1) := by decide +kernel
theorem dX8_gather_11 : decode cX8_gather 11 = .ok (.iconst 0, 1) := by decide +kernel
theorem dX8_gather_12 : decode cX8_gather 12 = .ok (.putfield 240, 3) := by decide +kernel
theorem dX8_gather_15 : decode cX8_gather 15 = .ok (.iconst 0, 1) := by decide +kernel
theorem dX8_gather_16 : decode cX8_gather 16 = .ok (.istore_n 3, 1) := by decide +kernel
theorem dX8_gather_17 : decode cX8_gather 17 = .ok (.iload_n 3, 1) := by decide +kernel
theorem dX8_gather_18 : decode cX8_gather 18 = .ok (.aload_n 0, 1) := by decide +kernel
theorem dX8_gather_19 : decode cX8_gather 19 = .ok (.getfield 97, 3) := by decide +kernel
theorem dX8_gather_22 : decode cX8_gather 22 = .ok (.if_icmp .ge 80, 3) := by decide +kernel
theorem dX8_gather_25 : decode cX8_gather 25 = .ok (.aload_n 0, 1) := by decide +kernel
theorem dX8_gather_26 : decode cX8_gather 26 = .ok (.iload_n 3, 1) := by decide +kernel
theorem dX8_gather_27 : decode cX8_gather 27 = .ok (.iload_n 2, 1) := by decide +kernel
theorem dX8_gather_28 : decode cX8_gather 28 = .ok (.invokevirtual 226, 3) := by decide +kernel
theorem dX8_gather_31 : decode cX8_gather 31 = .ok (.ifCond .eq 13, 3) := by decide +kernel
theorem dX8_gather_34 : decode cX8_gather 34 = .ok (.aload_n 0, 1) := by decide +kernel
theorem dX8_gather_35 : decode cX8_gather 35 = .ok (.iload_n 3, 1) := by decide +kernel
theorem dX8_gather_36 : decode cX8_gather 36 = .ok (.iload_n 1, 1) := by decide +kernel
theorem dX8_gather_37 : decode cX8_gather 37 = .ok (.iload_n 2, 1) := by decide +kernel
theorem dX8_gather_38 : decode cX8_gather 38 = .ok (.invokevirtual 230, 3) := by decide +kernel
theorem dX8_gather_41 : decode cX8_gather 41 = .ok (.goto 4, 3) := by decide +kernel
theorem dX8_gather_44 : decode cX8_gather 44 = .ok (.iconst 0, 1) := by decide +kernel
theorem dX8_gather_45 : decode cX8_gather 45 = .ok (.istore 4, 2) := by decide +kernel
theorem dX8_gather_47 : decode cX8_gather 47 = .ok (.aload_n 0, 1) := by decide +kernel
theorem dX8_gather_48 : decode cX8_gather 48 = .ok (.dup, 1) := by decide +kernel
theorem dX8_gather_49 : decode cX8_gather 49 = .ok (.getfield 234, 3) := by decide +kernel
theorem dX8_gather_52 : decode cX8_gather 52 = .ok (.iload 4, 2) := by decide +kernel
theorem dX8_gather_54 : decode cX8_gather 54 = .ok (.ifCond .eq 7, 3) := by decide +kernel
theorem dX8_gather_57 : decode cX8_gather 57 = .ok (.iconst 1, 1) := by decide +kernel
theorem dX8_gather_58 : decode cX8_gather 58 = .ok (.goto 4, 3) := by decide +kernel
theorem dX8_gather_61 : decode cX8_gather 61 = .ok (.iconst 0, 1) := by decide +kernel
theorem dX8_gather_62 : decode cX8_gather 62 = .ok (.iadd, 1) := by decide +kernel
theorem dX8_gather_63 : decode cX8_gather 63 = .ok (.putfield 234, 3) := by decide +kernel
theorem dX8_gather_66 : decode cX8_gather 66 = .ok (.aload_n 0, 1) := by decide +kernel
theorem dX8_gather_67 : decode cX8_gather 67 = .ok (.dup, 1) := by decide +kernel
theorem dX8_gather_68 : decode cX8_gather 68 = .ok (.getfield 237, 3) := by decide +kernel
theorem dX8_gather_71 : decode cX8_gather 71 = .ok (.iload 4, 2) := by decide +kernel
theorem dX8_gather_73 : decode cX8_gather 73 = .ok (.ifCond .le 7, 3) := by decide +kernel
theorem dX8_gather_76 : decode cX8_gather 76 = .ok (.iconst 1, 1) := by decide +kernel
theorem dX8_gather_77 : decode cX8_gather 77 = .ok (.goto 4, 3) := by decide +kernel
theorem dX8_gather_80 : decode cX8_gather 80 = .ok (.iconst 0, 1) := by decide +kernel
theorem dX8_gather_81 : decode cX8_gather 81 = .ok (.iadd, 1) := by decide +kernel
theorem dX8_gather_82 : decode cX8_gather 82 = .ok (.putfield 237, 3) := by decide +kernel
theorem dX8_gather_85 : decode cX8_gather 85 = .ok (.aload_n 0, 1) := by decide +kernel
theorem dX8_gather_86 : decode cX8_gather 86 = .ok (.dup, 1) := by decide +kernel
theorem dX8_gather_87 : decode cX8_gather 87 = .ok (.getfield 240, 3) := by decide +kernel
theorem dX8_gather_90 : decode cX8_gather 90 = .ok (.iload 4, 2) := by decide +kernel
theorem dX8_gather_92 : decode cX8_gather 92 = .ok (.iadd, 1) := by decide +kernel
theorem dX8_gather_93 : decode cX8_gather 93 = .ok (.putfield 240, 3) := by decide +kernel
theorem dX8_gather_96 : decode cX8_gather 96 = .ok (.iinc 3 1, 3) := by decide +kernel
theorem dX8_gather_99 : decode cX8_gather 99 = .ok (.goto (-82), 3) := by decide +kernel
theorem dX8_gather_102 : decode cX8_gather 102 = .ok (.return_, 1) := by decide +kernel
set_option maxRecDepth 20000 in
theorem ggX8_offs_X8_isParty : GoodIn wsX8_offs wsX8_isParty := goodIn_r _ [9, 10, 46, 47, 48, 49, 50, 51, 52, 53, 54, 55, 56, 57, 58, 59, 60, 61, 62, 63, 64, 65, 66, 67, 68, 69, 70, 71, 72, 73, 74, 75, 76, 77] (by decide +kernel) (by decide +kernel)
set_option maxRecDepth 20000 in
theorem gX8_offs_X8_isParty : GoodIn wsX8_offs (wsV RX8 173 RX8 yX8_isParty wsX8_isParty) := goodIn_app (goodIn_of _ (by decide +kernel)) ggX8_offs_X8_isParty
set_option maxRecDepth 20000 in
theorem ggX8_offs_X8_isMinute : GoodIn wsX8_offs wsX8_isMinute := goodIn_r _ [13] (by decide +kernel) (by decide +kernel)
set_option maxRecDepth 20000 in
theorem gX8_offs_X8_isMinute : GoodIn wsX8_offs (va_wsS RX8 129 yX8_isMinute wsX8_isMinute) := goodIn_app (goodIn_of _ (by decide +kernel)) ggX8_offs_X8_isMinute
set_option maxRecDepth 20000 in
theorem ggX8_offs_X8_refuse : GoodIn wsX8_offs wsX8_refuse := goodIn_r _ [17, 1, 46, 47, 48, 49, 50, 51, 52, 53, 54, 55, 56, 57, 58, 59, 60, 61, 62, 63, 64, 65, 66, 67, 68, 69, 70, 71, 72, 73, 74, 75, 76, 77] (by decide +kernel) (by decide +kernel)
set_option maxRecDepth 20000 in
theorem gX8_offs_X8_refuse : GoodIn wsX8_offs (wsV RX8 110 RX8 yX8_refuse wsX8_refuse) := goodIn_app (goodIn_of _ (by decide +kernel)) ggX8_offs_X8_refuse
set_option maxRecDepth 20000 in
theorem ggX8_offs_X8_gather : GoodIn wsX8_offs wsX8_gather := goodIn_r _ [21, 2, 3, 4, 22, 23, 24, 25, 8, 26, 27, 28, 29, 30, 31, 32, 33, 34, 35, 36, 37, 38, 10, 39, 40, 41, 42, 43, 44, 45, 46, 47, 48, 49, 50, 51, 52, 53, 54, 55, 56, 57, 58, 59, 60, 61, 62, 63, 64, 65, 66, 67, 68, 69, 70, 71, 72, 73, 74, 75, 76, 77] (by decide +kernel) (by decide +kernel)
set_option maxRecDepth 20000 in
theorem gX8_offs_X8_gather : GoodIn wsX8_offs (wsV RX8 243 RX8 yX8_gather wsX8_gather) := goodIn_app (goodIn_of _ (by decide +kernel)) ggX8_offs_X8_gather
theorem dX8_offs_0 : decode cX8_offs 0 = .ok (.aload_n 0, 1) := by decide +kernel
theorem dX8_offs_1 : decode cX8_offs 1 = .ok (.iload_n 1, 1) := by decide +kernel
theorem dX8_offs_2 : decode cX8_offs 2 = .ok (.invokevirtual 173, 3) := by decide +kernel
theorem dX8_offs_5 : decode cX8_offs 5 = .ok (.ifCond .eq 19, 3) := by decide +kernel
theorem dX8_offs_8 : decode cX8_offs 8 = .ok (.iload_n 2, 1) := by decide +kernel
theorem dX8_offs_9 : decode cX8_offs 9 = .ok (.ifCond .lt 15, 3) := by decide +kernel
theorem dX8_offs_12 : decode cX8_offs 12 = .ok (.iload_n 2, 1) := by decide +kernel
theorem dX8_offs_13 : decode cX8_offs 13 = .ok (.iconst 2, 1) := by decide +kernel
theorem dX8_offs_14 : decode cX8_offs 14 = .ok (.if_icmp .gt 10, 3) := by decide +kernel
theorem dX8_offs_17 : decode cX8_offs 17 = .ok (.iload_n 3, 1) := by decide +kernel
theorem dX8_offs_18 : decode cX8_offs 18 = .ok (.invokestatic 129, 3) := by decide +kernel
theorem dX8_offs_21 : decode cX8_offs 21 = .ok (.ifCond .ne 9, 3) := by decide +kernel
theorem dX8_offs_24 : decode cX8_offs 24 = .ok (.aload_n 0, 1) := by decide +kernel
theorem dX8_offs_25 : decode cX8_offs 25 = .ok (.iconst 1, 1) := by decide +kernel
theorem dX8_offs_26 : decode cX8_offs 26 = .ok (.invokevirtual 110, 3) := by decide +kernel
theorem dX8_offs_29 : decode cX8_offs 29 = .ok (.ireturn, 1) := by decide +kernel
theorem dX8_offs_30 : decode cX8_offs 30 = .ok (.aload_n 0, 1) := by decide +kernel
theorem dX8_offs_31 : decode cX8_offs 31 = .ok (.iload_n 1, 1) := by decide +kernel
theorem dX8_offs_32 : decode cX8_offs 32 = .ok (.iload_n 3, 1) := by decide +kernel
theorem dX8_offs_33 : decode cX8_offs 33 = .ok (.invokevirtual 243, 3) := by decide +kernel
theorem dX8_offs_36 : decode cX8_offs 36 = .ok (.aload_n 0, 1) := by decide +kernel
theorem dX8_offs_37 : decode cX8_offs 37 = .ok (.iconst 0, 1) := by decide +kernel
theorem dX8_offs_38 : decode cX8_offs 38 = .ok (.putfield 74, 3) := by decide +kernel
theorem dX8_offs_41 : decode cX8_offs 41 = .ok (.iload_n 2, 1) := by decide +kernel
theorem dX8_offs_42 : decode cX8_offs 42 = .ok (.ifCond .ne 10, 3) := by decide +kernel
theorem dX8_offs_45 : decode cX8_offs 45 = .ok (.aload_n 0, 1) := by decide +kernel
theorem dX8_offs_46 : decode cX8_offs 46 = .ok (.getfield 234, 3) := by decide +kernel
theorem dX8_offs_49 : decode cX8_offs 49 = .ok (.goto 19, 3) := by decide +kernel
theorem dX8_offs_52 : decode cX8_offs 52 = .ok (.iload_n 2, 1) := by decide +kernel
theorem dX8_offs_53 : decode cX8_offs 53 = .ok (.iconst 1, 1) := by decide +kernel
theorem dX8_offs_54 : decode cX8_offs 54 = .ok (.if_icmp .ne 10, 3) := by decide +kernel
theorem dX8_offs_57 : decode cX8_offs 57 = .ok (.aload_n 0, 1) := by decide +kernel
theorem dX8_offs_58 : decode cX8_offs 58 = .ok (.getfield 237, 3) := by decide +kernel
theorem dX8_offs_61 : decode cX8_offs 61 = .ok (.goto 7, 3) := by decide +kernel
theorem dX8_offs_64 : decode cX8_offs 64 = .ok (.aload_n 0, 1) := by decide +kernel
theorem dX8_offs_65 : decode cX8_offs 65 = .ok (.getfield 240, 3) := by decide +kernel
theorem dX8_offs_68 : decode cX8_offs 68 = .ok (.ireturn, 1) := by decide +kernel
set_option maxRecDepth 20000 in
theorem ggX8_lean_X8_isParty : GoodIn wsX8_lean wsX8_isParty := goodIn_r _ [8, 9, 53, 54, 55, 56, 57, 58, 59, 60, 61, 62, 63, 64, 65, 66, 67, 68, 69, 70, 71, 72, 73, 74, 75, 76, 77, 78, 79, 80, 81, 82, 83, 84] (by decide +kernel) (by decide +kernel)
set_option maxRecDepth 20000 in
theorem gX8_lean_X8_isParty : GoodIn wsX8_lean (wsV RX8 173 RX8 yX8_isParty wsX8_isParty) := goodIn_app (goodIn_of _ (by decide +kernel)) ggX8_lean_X8_isParty
set_option maxRecDepth 20000 in
theorem ggX8_lean_X8_isMinute : GoodIn wsX8_lean wsX8_isMinute := goodIn_r _ [12] (by decide +kernel) (by decide +kernel)
set_option maxRecDepth 20000 in
theorem gX8_lean_X8_isMinute : GoodIn wsX8_lean (va_wsS RX8 129 yX8_isMinute wsX8_isMinute) := goodIn_app (goodIn_of _ (by decide +kernel)) ggX8_lean_X8_isMinute
set_option maxRecDepth 20000 in
theorem ggX8_lean_X8_refuse : GoodIn wsX8_lean wsX8_refuse := goodIn_r _ [16, 17, 53, 54, 55, 56, 57, 58, 59, 60, 61, 62, 63, 64, 65, 66, 67, 68, 69, 70, 71, 72, 73, 74, 75, 76, 77, 78, 79, 80, 81, 82, 83, 84] (by decide +kernel) (by decide +kernel)
set_option maxRecDepth 20000 in
theorem gX8_lean_X8_refuse : GoodIn wsX8_lean (wsV RX8 110 RX8 yX8_refuse wsX8_refuse) := goodIn_app (goodIn_of _ (by decide +kernel)) ggX8_lean_X8_refuse
set_option maxRecDepth 20000 in
theorem ggX8_lean_X8_gather : GoodIn wsX8_lean wsX8_gather := goodIn_r _ [21, 2, 3, 22, 23, 24, 25, 26, 7, 27, 28, 29, 30, 31, 32, 33, 34, 35, 36, 37, 38, 39, 9, 40, 41, 42, 43, 44, 45, 46, 53, 54, 55, 56, 57, 58, 59, 60, 61, 62, 63, 64, 65, 66, 67, 68, 69, 70, 71, 72, 73, 74, 75, 76, 77, 78, 79, 80, 81, 82, 83, 84] (by decide +kernel) (by decide +kernel)
set_option maxRecDepth 20000 in
theorem gX8_lean_X8_gather : GoodIn wsX8_lean (wsV RX8 243 RX8 yX8_gather wsX8_gather) := goodIn_app (goodIn_of _ (by decide +kernel)) ggX8_lean_X8_gather
set_option maxRecDepth 20000 in
theorem ggX8_lean_X8_fraction : GoodIn wsX8_lean wsX8_fraction := goodIn_r _ [50, 51, 52, 17, 53, 54, 55, 56, 57, 58, 59, 60, 61, 62, 63, 64, 65, 66, 67, 68, 69, 70, 71, 72, 73, 74, 75, 76, 77, 78, 79, 80, 81, 82, 83, 84] (by decide +kernel) (by decide +kernel)
set_option maxRecDepth 20000 in
theorem gX8_lean_X8_fraction : GoodIn wsX8_lean (wsV RX8 125 RX8 yX8_fraction wsX8_fraction) := goodIn_app (goodIn_of _ (by decide +kernel)) ggX8_lean_X8_fraction
theorem dX8_lean_0 : decode cX8_lean 0 = .ok (.aload_n 0, 1) := by decide +kernel
theorem dX8_lean_1 : decode cX8_lean 1 = .ok (.iload_n 1, 1) := by decide +kernel
theorem dX8_lean_2 : decode cX8_lean 2 = .ok (.invokevirtual 173, 3) := by decide +kernel
theorem dX8_lean_5 : decode cX8_lean 5 = .ok (.ifCond .eq 10, 3) := by decide +kernel
theorem dX8_lean_8 : decode cX8_lean 8 = .ok (.iload_n 2, 1) := by decide +kernel
theorem dX8_lean_9 : decode cX8_lean 9 = .ok (.invokestatic 129, 3) := by decide +kernel
theorem dX8_lean_12 : decode cX8_lean 12 = .ok (.ifCond .ne 9, 3) := by decide +kernel
theorem dX8_lean_15 : decode cX8_lean 15 = .ok (.aload_n 0, 1) := by decide +kernel
theorem dX8_lean_16 : decode cX8_lean 16 = .ok (.iconst 1, 1) := by decide +kernel
theorem dX8_lean_17 : decode cX8_lean 17 = .ok (.invokevirtual 110, 3) := by decide +kernel
theorem dX8_lean_20 : decode cX8_lean 20 = .ok (.ireturn, 1) := by decide +kernel
theorem dX8_lean_21 : decode cX8_lean 21 = .ok (.aload_n 0, 1) := by decide +kernel
theorem dX8_lean_22 : decode cX8_lean 22 = .ok (.iload_n 1, 1) := by decide +kernel
theorem dX8_lean_23 : decode cX8_lean 23 = .ok (.iload_n 2, 1) := by decide +kernel
theorem dX8_lean_24 : decode cX8_lean 24 = .ok (.invokevirtual 243, 3) := by decide +kernel
theorem dX8_lean_27 : decode cX8_lean 27 = .ok (.iconst 0, 1) := by decide +kernel
theorem dX8_lean_28 : decode cX8_lean 28 = .ok (.istore_n 3, 1) := by decide +kernel
theorem dX8_lean_29 : decode cX8_lean 29 = .ok (.iload_n 3, 1) := by decide +kernel
theorem dX8_lean_30 : decode cX8_lean 30 = .ok (.bipush 40, 2) := by decide +kernel
theorem dX8_lean_32 : decode cX8_lean 32 = .ok (.if_icmp .gt 24, 3) := by decide +kernel
theorem dX8_lean_35 : decode cX8_lean 35 = .ok (.aload_n 0, 1) := by decide +kernel
theorem dX8_lean_36 : decode cX8_lean 36 = .ok (.getfield 71, 3) := by decide +kernel
theorem dX8_lean_39 : decode cX8_lean 39 = .ok (.iload_n 3, 1) := by decide +kernel
theorem dX8_lean_40 : decode cX8_lean 40 = .ok (.iload_n 3, 1) := by decide +kernel
theorem dX8_lean_41 : decode cX8_lean 41 = .ok (.ifCond .ne 7, 3) := by decide +kernel
theorem dX8_lean_44 : decode cX8_lean 44 = .ok (.lconst 1, 1) := by decide +kernel
theorem dX8_lean_45 : decode cX8_lean 45 = .ok (.goto 4, 3) := by decide +kernel
theorem dX8_lean_48 : decode cX8_lean 48 = .ok (.lconst 0, 1) := by decide +kernel
theorem dX8_lean_49 : decode cX8_lean 49 = .ok (.lastore, 1) := by decide +kernel
theorem dX8_lean_50 : decode cX8_lean 50 = .ok (.iinc 3 1, 3) := by decide +kernel
theorem dX8_lean_53 : decode cX8_lean 53 = .ok (.goto (-24), 3) := by decide +kernel
theorem dX8_lean_56 : decode cX8_lean 56 = .ok (.iconst 0, 1) := by decide +kernel
theorem dX8_lean_57 : decode cX8_lean 57 = .ok (.istore_n 3, 1) := by decide +kernel
theorem dX8_lean_58 : decode cX8_lean 58 = .ok (.iload_n 3, 1) := by decide +kernel
theorem dX8_lean_59 : decode cX8_lean 59 = .ok (.aload_n 0, 1) := by decide +kernel
theorem dX8_lean_60 : decode cX8_lean 60 = .ok (.getfield 234, 3) := by decide +kernel
theorem dX8_lean_63 : decode cX8_lean 63 = .ok (.if_icmp .ge 43, 3) := by decide +kernel
theorem dX8_lean_66 : decode cX8_lean 66 = .ok (.bipush 40, 2) := by decide +kernel
theorem dX8_lean_68 : decode cX8_lean 68 = .ok (.istore 4, 2) := by decide +kernel
theorem dX8_lean_70 : decode cX8_lean 70 = .ok (.iload 4, 2) := by decide +kernel
theorem dX8_lean_72 : decode cX8_lean 72 = .ok (.ifCond .le 28, 3) := by decide +kernel
theorem dX8_lean_75 : decode cX8_lean 75 = .ok (.aload_n 0, 1) := by decide +kernel
theorem dX8_lean_76 : decode cX8_lean 76 = .ok (.getfield 71, 3) := by decide +kernel
theorem dX8_lean_79 : decode cX8_lean 79 = .ok (.iload 4, 2) := by decide +kernel
theorem dX8_lean_81 : decode cX8_lean 81 = .ok (.dup2, 1) := by decide +kernel
theorem dX8_lean_82 : decode cX8_lean 82 = .ok (.laload, 1) := by decide +kernel
theorem dX8_lean_83 : decode cX8_lean 83 = .ok (.aload_n 0, 1) := by decide +kernel
theorem dX8_lean_84 : decode cX8_lean 84 = .ok (.getfield 71, 3) := by decide +kernel
theorem dX8_lean_87 : decode cX8_lean 87 = .ok (.iload 4, 2) := by decide +kernel
theorem dX8_lean_89 : decode cX8_lean 89 = .ok (.iconst 1, 1) := by decide +kernel
theorem dX8_lean_90 : decode cX8_lean 90 = .ok (.isub, 1) := by decide +kernel
theorem dX8_lean_91 : decode cX8_lean 91 = .ok (.laload, 1) := by decide +kernel
theorem dX8_lean_92 : decode cX8_lean 92 = .ok (.ladd, 1) := by decide +kernel
theorem dX8_lean_93 : decode cX8_lean 93 = .ok (.lastore, 1) := by decide +kernel
theorem dX8_lean_94 : decode cX8_lean 94 = .ok (.iinc 4 (-1), 3) := by decide +kernel
theorem dX8_lean_97 : decode cX8_lean 97 = .ok (.goto (-27), 3) := by decide +kernel
theorem dX8_lean_100 : decode cX8_lean 100 = .ok (.iinc 3 1, 3) := by decide +kernel
theorem dX8_lean_103 : decode cX8_lean 103 = .ok (.goto (-45), 3) := by decide +kernel
theorem dX8_lean_106 : decode cX8_lean 106 = .ok (.lconst 0, 1) := by decide +kernel
theorem dX8_lean_107 : decode cX8_lean 107 = .ok (.lstore_n 3, 1) := by decide +kernel
theorem dX8_lean_108 : decode cX8_lean 108 = .ok (.aload_n 0, 1) := by decide +kernel
theorem dX8_lean_109 : decode cX8_lean 109 = .ok (.getfield 237, 3) := by decide +kernel
theorem dX8_lean_112 : decode cX8_lean 112 = .ok (.istore 5, 2) := by decide +kernel
theorem dX8_lean_114 : decode cX8_lean 114 = .ok (.iload 5, 2) := by decide +kernel
theorem dX8_lean_116 : decode cX8_lean 116 = .ok (.aload_n 0, 1) := by decide +kernel
theorem dX8_lean_117 : decode cX8_lean 117 = .ok (.getfield 234, 3) := by decide +kernel
theorem dX8_lean_120 : decode cX8_lean 120 = .ok (.if_icmp .gt 19, 3) := by decide +kernel
theorem dX8_lean_123 : decode cX8_lean 123 = .ok (.lload_n 3, 1) := by decide +kernel
theorem dX8_lean_124 : decode cX8_lean 124 = .ok (.aload_n 0, 1) := by decide +kernel
theorem dX8_lean_125 : decode cX8_lean 125 = .ok (.getfield 71, 3) := by decide +kernel
theorem dX8_lean_128 : decode cX8_lean 128 = .ok (.iload 5, 2) := by decide +kernel
theorem dX8_lean_130 : decode cX8_lean 130 = .ok (.laload, 1) := by decide +kernel
theorem dX8_lean_131 : decode cX8_lean 131 = .ok (.ladd, 1) := by decide +kernel
theorem dX8_lean_132 : decode cX8_lean 132 = .ok (.lstore_n 3, 1) := by decide +kernel
theorem dX8_lean_133 : decode cX8_lean 133 = .ok (.iinc 5 1, 3) := by decide +kernel
theorem dX8_lean_136 : decode cX8_lean 136 = .ok (.goto (-22), 3) := by decide +kernel
theorem dX8_lean_139 : decode cX8_lean 139 = .ok (.aload_n 0, 1) := by decide +kernel
theorem dX8_lean_140 : decode cX8_lean 140 = .ok (.lload_n 3, 1) := by decide +kernel
theorem dX8_lean_141 : decode cX8_lean 141 = .ok (.lconst 1, 1) := by decide +kernel
theorem dX8_lean_142 : decode cX8_lean 142 = .ok (.aload_n 0, 1) := by decide +kernel
theorem dX8_lean_143 : decode cX8_lean 143 = .ok (.getfield 234, 3) := by decide +kernel
theorem dX8_lean_146 : decode cX8_lean 146 = .ok (.lshl, 1) := by decide +kernel
theorem dX8_lean_147 : decode cX8_lean 147 = .ok (.invokevirtual 125, 3) := by decide +kernel
theorem dX8_lean_150 : decode cX8_lean 150 = .ok (.ireturn, 1) := by decide +kernel
