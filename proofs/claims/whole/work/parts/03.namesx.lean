theorem dX0_init_0 : decode cX0_init 0 = .ok (.aload_n 0, 1) := by decide +kernel
theorem dX0_init_1 : decode cX0_init 1 = .ok (.invokespecial 1, 3) := by decide +kernel
theorem dX0_init_4 : decode cX0_init 4 = .ok (.aload_n 0, 1) := by decide +kernel
theorem dX0_init_5 : decode cX0_init 5 = .ok (.lconst 0, 1) := by decide +kernel
theorem dX0_init_6 : decode cX0_init 6 = .ok (.putfield 7, 3) := by decide +kernel
theorem dX0_init_9 : decode cX0_init 9 = .ok (.aload_n 0, 1) := by decide +kernel
theorem dX0_init_10 : decode cX0_init 10 = .ok (.lconst 1, 1) := by decide +kernel
theorem dX0_init_11 : decode cX0_init 11 = .ok (.putfield 13, 3) := by decide +kernel
theorem dX0_init_14 : decode cX0_init 14 = .ok (.return_, 1) := by decide +kernel
theorem dX0_clear_0 : decode cX0_clear 0 = .ok (.aload_n 0, 1) := by decide +kernel
theorem dX0_clear_1 : decode cX0_clear 1 = .ok (.lconst 0, 1) := by decide +kernel
theorem dX0_clear_2 : decode cX0_clear 2 = .ok (.putfield 7, 3) := by decide +kernel
theorem dX0_clear_5 : decode cX0_clear 5 = .ok (.aload_n 0, 1) := by decide +kernel
theorem dX0_clear_6 : decode cX0_clear 6 = .ok (.lconst 1, 1) := by decide +kernel
theorem dX0_clear_7 : decode cX0_clear 7 = .ok (.putfield 13, 3) := by decide +kernel
theorem dX0_clear_10 : decode cX0_clear 10 = .ok (.return_, 1) := by decide +kernel
set_option maxRecDepth 20000 in
theorem ggX0_put_X0_sharedDivisor : GoodIn wsX0_put wsX0_sharedDivisor := goodIn_r _ [10] (by decide +kernel) (by decide +kernel)
set_option maxRecDepth 20000 in
theorem gX0_put_X0_sharedDivisor : GoodIn wsX0_put (va_wsS RX0 22 yX0_sharedDivisor wsX0_sharedDivisor) := goodIn_app (goodIn_of _ (by decide +kernel)) ggX0_put_X0_sharedDivisor
set_option maxRecDepth 20000 in
theorem ggX0_put_X0_clear : GoodIn wsX0_put wsX0_clear := goodIn_r _ [14, 5, 6, 15, 16] (by decide +kernel) (by decide +kernel)
set_option maxRecDepth 20000 in
theorem gX0_put_X0_clear : GoodIn wsX0_put (wsV RX0 26 RX0 yX0_clear wsX0_clear) := goodIn_app (goodIn_of _ (by decide +kernel)) ggX0_put_X0_clear
theorem dX0_put_0 : decode cX0_put 0 = .ok (.lload_n 1, 1) := by decide +kernel
theorem dX0_put_1 : decode cX0_put 1 = .ok (.invokestatic 16, 3) := by decide +kernel
theorem dX0_put_4 : decode cX0_put 4 = .ok (.lload_n 3, 1) := by decide +kernel
theorem dX0_put_5 : decode cX0_put 5 = .ok (.invokestatic 22, 3) := by decide +kernel
theorem dX0_put_8 : decode cX0_put 8 = .ok (.lstore 5, 2) := by decide +kernel
theorem dX0_put_10 : decode cX0_put 10 = .ok (.lload_n 1, 1) := by decide +kernel
theorem dX0_put_11 : decode cX0_put 11 = .ok (.lconst 0, 1) := by decide +kernel
theorem dX0_put_12 : decode cX0_put 12 = .ok (.lcmp, 1) := by decide +kernel
theorem dX0_put_13 : decode cX0_put 13 = .ok (.ifCond .eq 16, 3) := by decide +kernel
theorem dX0_put_16 : decode cX0_put 16 = .ok (.lload_n 3, 1) := by decide +kernel
theorem dX0_put_17 : decode cX0_put 17 = .ok (.lconst 0, 1) := by decide +kernel
theorem dX0_put_18 : decode cX0_put 18 = .ok (.lcmp, 1) := by decide +kernel
theorem dX0_put_19 : decode cX0_put 19 = .ok (.ifCond .le 10, 3) := by decide +kernel
theorem dX0_put_22 : decode cX0_put 22 = .ok (.lload 5, 2) := by decide +kernel
theorem dX0_put_24 : decode cX0_put 24 = .ok (.lconst 0, 1) := by decide +kernel
theorem dX0_put_25 : decode cX0_put 25 = .ok (.lcmp, 1) := by decide +kernel
theorem dX0_put_26 : decode cX0_put 26 = .ok (.ifCond .gt 10, 3) := by decide +kernel
theorem dX0_put_29 : decode cX0_put 29 = .ok (.aload_n 0, 1) := by decide +kernel
theorem dX0_put_30 : decode cX0_put 30 = .ok (.invokevirtual 26, 3) := by decide +kernel
theorem dX0_put_33 : decode cX0_put 33 = .ok (.goto 19, 3) := by decide +kernel
theorem dX0_put_36 : decode cX0_put 36 = .ok (.aload_n 0, 1) := by decide +kernel
theorem dX0_put_37 : decode cX0_put 37 = .ok (.lload_n 1, 1) := by decide +kernel
theorem dX0_put_38 : decode cX0_put 38 = .ok (.lload 5, 2) := by decide +kernel
theorem dX0_put_40 : decode cX0_put 40 = .ok (.ldiv, 1) := by decide +kernel
theorem dX0_put_41 : decode cX0_put 41 = .ok (.putfield 7, 3) := by decide +kernel
theorem dX0_put_44 : decode cX0_put 44 = .ok (.aload_n 0, 1) := by decide +kernel
theorem dX0_put_45 : decode cX0_put 45 = .ok (.lload_n 3, 1) := by decide +kernel
theorem dX0_put_46 : decode cX0_put 46 = .ok (.lload 5, 2) := by decide +kernel
theorem dX0_put_48 : decode cX0_put 48 = .ok (.ldiv, 1) := by decide +kernel
theorem dX0_put_49 : decode cX0_put 49 = .ok (.putfield 13, 3) := by decide +kernel
theorem dX0_put_52 : decode cX0_put 52 = .ok (.return_, 1) := by decide +kernel
set_option maxRecDepth 20000 in
theorem ggX0_add_X0_sharedDivisor : GoodIn wsX0_add wsX0_sharedDivisor := goodIn_r _ [6] (by decide +kernel) (by decide +kernel)
set_option maxRecDepth 20000 in
theorem gX0_add_X0_sharedDivisor : GoodIn wsX0_add (va_wsS RX0 22 yX0_sharedDivisor wsX0_sharedDivisor) := goodIn_app (goodIn_of _ (by decide +kernel)) ggX0_add_X0_sharedDivisor
set_option maxRecDepth 20000 in
theorem ggX0_add_X0_put : GoodIn wsX0_add wsX0_put := goodIn_r _ [10, 11, 12, 13, 14, 2, 1, 3, 4, 5, 6, 15, 16, 17, 18, 19, 20] (by decide +kernel) (by decide +kernel)
set_option maxRecDepth 20000 in
theorem gX0_add_X0_put : GoodIn wsX0_add (wsV RX0 29 RX0 yX0_put wsX0_put) := goodIn_app (goodIn_of _ (by decide +kernel)) ggX0_add_X0_put
theorem dX0_add_0 : decode cX0_add 0 = .ok (.aload_n 0, 1) := by decide +kernel
theorem dX0_add_1 : decode cX0_add 1 = .ok (.getfield 13, 3) := by decide +kernel
theorem dX0_add_4 : decode cX0_add 4 = .ok (.lstore 5, 2) := by decide +kernel
theorem dX0_add_6 : decode cX0_add 6 = .ok (.lload 5, 2) := by decide +kernel
theorem dX0_add_8 : decode cX0_add 8 = .ok (.lload_n 3, 1) := by decide +kernel
theorem dX0_add_9 : decode cX0_add 9 = .ok (.invokestatic 22, 3) := by decide +kernel
theorem dX0_add_12 : decode cX0_add 12 = .ok (.lstore 7, 2) := by decide +kernel
theorem dX0_add_14 : decode cX0_add 14 = .ok (.lload_n 3, 1) := by decide +kernel
theorem dX0_add_15 : decode cX0_add 15 = .ok (.lconst 0, 1) := by decide +kernel
theorem dX0_add_16 : decode cX0_add 16 = .ok (.lcmp, 1) := by decide +kernel
theorem dX0_add_17 : decode cX0_add 17 = .ok (.ifCond .le 38, 3) := by decide +kernel
theorem dX0_add_20 : decode cX0_add 20 = .ok (.lload 7, 2) := by decide +kernel
theorem dX0_add_22 : decode cX0_add 22 = .ok (.lconst 0, 1) := by decide +kernel
theorem dX0_add_23 : decode cX0_add 23 = .ok (.lcmp, 1) := by decide +kernel
theorem dX0_add_24 : decode cX0_add 24 = .ok (.ifCond .le 31, 3) := by decide +kernel
theorem dX0_add_27 : decode cX0_add 27 = .ok (.aload_n 0, 1) := by decide +kernel
theorem dX0_add_28 : decode cX0_add 28 = .ok (.aload_n 0, 1) := by decide +kernel
theorem dX0_add_29 : decode cX0_add 29 = .ok (.getfield 7, 3) := by decide +kernel
theorem dX0_add_32 : decode cX0_add 32 = .ok (.lload_n 3, 1) := by decide +kernel
theorem dX0_add_33 : decode cX0_add 33 = .ok (.lload 7, 2) := by decide +kernel
theorem dX0_add_35 : decode cX0_add 35 = .ok (.ldiv, 1) := by decide +kernel
theorem dX0_add_36 : decode cX0_add 36 = .ok (.lmul, 1) := by decide +kernel
theorem dX0_add_37 : decode cX0_add 37 = .ok (.lload_n 1, 1) := by decide +kernel
theorem dX0_add_38 : decode cX0_add 38 = .ok (.lload 5, 2) := by decide +kernel
theorem dX0_add_40 : decode cX0_add 40 = .ok (.lload 7, 2) := by decide +kernel
theorem dX0_add_42 : decode cX0_add 42 = .ok (.ldiv, 1) := by decide +kernel
theorem dX0_add_43 : decode cX0_add 43 = .ok (.lmul, 1) := by decide +kernel
theorem dX0_add_44 : decode cX0_add 44 = .ok (.ladd, 1) := by decide +kernel
theorem dX0_add_45 : decode cX0_add 45 = .ok (.lload 5, 2) := by decide +kernel
theorem dX0_add_47 : decode cX0_add 47 = .ok (.lload 7, 2) := by decide +kernel
theorem dX0_add_49 : decode cX0_add 49 = .ok (.ldiv, 1) := by decide +kernel
theorem dX0_add_50 : decode cX0_add 50 = .ok (.lload_n 3, 1) := by decide +kernel
theorem dX0_add_51 : decode cX0_add 51 = .ok (.lmul, 1) := by decide +kernel
theorem dX0_add_52 : decode cX0_add 52 = .ok (.invokevirtual 29, 3) := by decide +kernel
theorem dX0_add_55 : decode cX0_add 55 = .ok (.return_, 1) := by decide +kernel
theorem dX0_sign_0 : decode cX0_sign 0 = .ok (.aload_n 0, 1) := by decide +kernel
theorem dX0_sign_1 : decode cX0_sign 1 = .ok (.getfield 7, 3) := by decide +kernel
theorem dX0_sign_4 : decode cX0_sign 4 = .ok (.lconst 0, 1) := by decide +kernel
theorem dX0_sign_5 : decode cX0_sign 5 = .ok (.lcmp, 1) := by decide +kernel
theorem dX0_sign_6 : decode cX0_sign 6 = .ok (.ifCond .le 7, 3) := by decide +kernel
theorem dX0_sign_9 : decode cX0_sign 9 = .ok (.iconst 1, 1) := by decide +kernel
theorem dX0_sign_10 : decode cX0_sign 10 = .ok (.goto 17, 3) := by decide +kernel
theorem dX0_sign_13 : decode cX0_sign 13 = .ok (.aload_n 0, 1) := by decide +kernel
theorem dX0_sign_14 : decode cX0_sign 14 = .ok (.getfield 7, 3) := by decide +kernel
theorem dX0_sign_17 : decode cX0_sign 17 = .ok (.lconst 0, 1) := by decide +kernel
theorem dX0_sign_18 : decode cX0_sign 18 = .ok (.lcmp, 1) := by decide +kernel
theorem dX0_sign_19 : decode cX0_sign 19 = .ok (.ifCond .ge 7, 3) := by decide +kernel
theorem dX0_sign_22 : decode cX0_sign 22 = .ok (.iconst (-1), 1) := by decide +kernel
theorem dX0_sign_23 : decode cX0_sign 23 = .ok (.goto 4, 3) := by decide +kernel
theorem dX0_sign_26 : decode cX0_sign 26 = .ok (.iconst 0, 1) := by decide +kernel
theorem dX0_sign_27 : decode cX0_sign 27 = .ok (.ireturn, 1) := by decide +kernel
theorem dX0_roundedUp_0 : decode cX0_roundedUp 0 = .ok (.aload_n 0, 1) := by decide +kernel
theorem dX0_roundedUp_1 : decode cX0_roundedUp 1 = .ok (.getfield 13, 3) := by decide +kernel
theorem dX0_roundedUp_4 : decode cX0_roundedUp 4 = .ok (.lconst 0, 1) := by decide +kernel
theorem dX0_roundedUp_5 : decode cX0_roundedUp 5 = .ok (.lcmp, 1) := by decide +kernel
theorem dX0_roundedUp_6 : decode cX0_roundedUp 6 = .ok (.ifCond .le 24, 3) := by decide +kernel
theorem dX0_roundedUp_9 : decode cX0_roundedUp 9 = .ok (.lload_n 1, 1) := by decide +kernel
theorem dX0_roundedUp_10 : decode cX0_roundedUp 10 = .ok (.aload_n 0, 1) := by decide +kernel
theorem dX0_roundedUp_11 : decode cX0_roundedUp 11 = .ok (.getfield 7, 3) := by decide +kernel
theorem dX0_roundedUp_14 : decode cX0_roundedUp 14 = .ok (.lmul, 1) := by decide +kernel
theorem dX0_roundedUp_15 : decode cX0_roundedUp 15 = .ok (.aload_n 0, 1) := by decide +kernel
theorem dX0_roundedUp_16 : decode cX0_roundedUp 16 = .ok (.getfield 13, 3) := by decide +kernel
theorem dX0_roundedUp_19 : decode cX0_roundedUp 19 = .ok (.ladd, 1) := by decide +kernel
theorem dX0_roundedUp_20 : decode cX0_roundedUp 20 = .ok (.lconst 1, 1) := by decide +kernel
theorem dX0_roundedUp_21 : decode cX0_roundedUp 21 = .ok (.lsub, 1) := by decide +kernel
theorem dX0_roundedUp_22 : decode cX0_roundedUp 22 = .ok (.aload_n 0, 1) := by decide +kernel
theorem dX0_roundedUp_23 : decode cX0_roundedUp 23 = .ok (.getfield 13, 3) := by decide +kernel
theorem dX0_roundedUp_26 : decode cX0_roundedUp 26 = .ok (.ldiv, 1) := by decide +kernel
theorem dX0_roundedUp_27 : decode cX0_roundedUp 27 = .ok (.goto 4, 3) := by decide +kernel
theorem dX0_roundedUp_30 : decode cX0_roundedUp 30 = .ok (.lconst 0, 1) := by decide +kernel
theorem dX0_roundedUp_31 : decode cX0_roundedUp 31 = .ok (.lreturn, 1) := by decide +kernel
theorem dX0_sharedDivisor_0 : decode cX0_sharedDivisor 0 = .ok (.lload_n 0, 1) := by decide +kernel
theorem dX0_sharedDivisor_1 : decode cX0_sharedDivisor 1 = .ok (.lstore 4, 2) := by decide +kernel
theorem dX0_sharedDivisor_3 : decode cX0_sharedDivisor 3 = .ok (.lload_n 2, 1) := by decide +kernel
theorem dX0_sharedDivisor_4 : decode cX0_sharedDivisor 4 = .ok (.lstore 6, 2) := by decide +kernel
theorem dX0_sharedDivisor_6 : decode cX0_sharedDivisor 6 = .ok (.iconst 0, 1) := by decide +kernel
theorem dX0_sharedDivisor_7 : decode cX0_sharedDivisor 7 = .ok (.istore 8, 2) := by decide +kernel
theorem dX0_sharedDivisor_9 : decode cX0_sharedDivisor 9 = .ok (.iload 8, 2) := by decide +kernel
theorem dX0_sharedDivisor_11 : decode cX0_sharedDivisor 11 = .ok (.sipush 200, 3) := by decide +kernel
theorem dX0_sharedDivisor_14 : decode cX0_sharedDivisor 14 = .ok (.if_icmp .ge 31, 3) := by decide +kernel
theorem dX0_sharedDivisor_17 : decode cX0_sharedDivisor 17 = .ok (.lload 6, 2) := by decide +kernel
theorem dX0_sharedDivisor_19 : decode cX0_sharedDivisor 19 = .ok (.lconst 0, 1) := by decide +kernel
theorem dX0_sharedDivisor_20 : decode cX0_sharedDivisor 20 = .ok (.lcmp, 1) := by decide +kernel
theorem dX0_sharedDivisor_21 : decode cX0_sharedDivisor 21 = .ok (.ifCond .eq 24, 3) := by decide +kernel
theorem dX0_sharedDivisor_24 : decode cX0_sharedDivisor 24 = .ok (.lload 4, 2) := by decide +kernel
theorem dX0_sharedDivisor_26 : decode cX0_sharedDivisor 26 = .ok (.lload 6, 2) := by decide +kernel
theorem dX0_sharedDivisor_28 : decode cX0_sharedDivisor 28 = .ok (.lrem, 1) := by decide +kernel
theorem dX0_sharedDivisor_29 : decode cX0_sharedDivisor 29 = .ok (.lstore 9, 2) := by decide +kernel
theorem dX0_sharedDivisor_31 : decode cX0_sharedDivisor 31 = .ok (.lload 6, 2) := by decide +kernel
theorem dX0_sharedDivisor_33 : decode cX0_sharedDivisor 33 = .ok (.lstore 4, 2) := by decide +kernel
theorem dX0_sharedDivisor_35 : decode cX0_sharedDivisor 35 = .ok (.lload 9, 2) := by decide +kernel
theorem dX0_sharedDivisor_37 : decode cX0_sharedDivisor 37 = .ok (.lstore 6, 2) := by decide +kernel
theorem dX0_sharedDivisor_39 : decode cX0_sharedDivisor 39 = .ok (.iinc 8 1, 3) := by decide +kernel
theorem dX0_sharedDivisor_42 : decode cX0_sharedDivisor 42 = .ok (.goto (-33), 3) := by decide +kernel
theorem dX0_sharedDivisor_45 : decode cX0_sharedDivisor 45 = .ok (.lload 4, 2) := by decide +kernel
theorem dX0_sharedDivisor_47 : decode cX0_sharedDivisor 47 = .ok (.lreturn, 1) := by decide +kernel
theorem dX1_init_0 : decode cX1_init 0 = .ok (.aload_n 0, 1) := by decide +kernel
theorem dX1_init_1 : decode cX1_init 1 = .ok (.invokespecial 3, 3) := by decide +kernel
theorem dX1_init_4 : decode cX1_init 4 = .ok (.aload_n 0, 1) := by decide +kernel
theorem dX1_init_5 : decode cX1_init 5 = .ok (.bipush 100, 2) := by decide +kernel
theorem dX1_init_7 : decode cX1_init 7 = .ok (.newarray .boolean, 2) := by decide +kernel
theorem dX1_init_9 : decode cX1_init 9 = .ok (.putfield 9, 3) := by decide +kernel
theorem dX1_init_12 : decode cX1_init 12 = .ok (.return_, 1) := by decide +kernel
theorem dX1_set_0 : decode cX1_set 0 = .ok (.aload_n 0, 1) := by decide +kernel
theorem dX1_set_1 : decode cX1_set 1 = .ok (.getfield 9, 3) := by decide +kernel
theorem dX1_set_4 : decode cX1_set 4 = .ok (.iload_n 1, 1) := by decide +kernel
theorem dX1_set_5 : decode cX1_set 5 = .ok (.bipush 10, 2) := by decide +kernel
theorem dX1_set_7 : decode cX1_set 7 = .ok (.imul, 1) := by decide +kernel
theorem dX1_set_8 : decode cX1_set 8 = .ok (.iload_n 2, 1) := by decide +kernel
theorem dX1_set_9 : decode cX1_set 9 = .ok (.iadd, 1) := by decide +kernel
theorem dX1_set_10 : decode cX1_set 10 = .ok (.iload_n 3, 1) := by decide +kernel
theorem dX1_set_11 : decode cX1_set 11 = .ok (.bastore, 1) := by decide +kernel
theorem dX1_set_12 : decode cX1_set 12 = .ok (.aload_n 0, 1) := by decide +kernel
theorem dX1_set_13 : decode cX1_set 13 = .ok (.getfield 9, 3) := by decide +kernel
theorem dX1_set_16 : decode cX1_set 16 = .ok (.iload_n 2, 1) := by decide +kernel
theorem dX1_set_17 : decode cX1_set 17 = .ok (.bipush 10, 2) := by decide +kernel
theorem dX1_set_19 : decode cX1_set 19 = .ok (.imul, 1) := by decide +kernel
theorem dX1_set_20 : decode cX1_set 20 = .ok (.iload_n 1, 1) := by decide +kernel
theorem dX1_set_21 : decode cX1_set 21 = .ok (.iadd, 1) := by decide +kernel
theorem dX1_set_22 : decode cX1_set 22 = .ok (.iload_n 3, 1) := by decide +kernel
theorem dX1_set_23 : decode cX1_set 23 = .ok (.bastore, 1) := by decide +kernel
theorem dX1_set_24 : decode cX1_set 24 = .ok (.return_, 1) := by decide +kernel
theorem dX1_are_0 : decode cX1_are 0 = .ok (.aload_n 0, 1) := by decide +kernel
theorem dX1_are_1 : decode cX1_are 1 = .ok (.getfield 9, 3) := by decide +kernel
theorem dX1_are_4 : decode cX1_are 4 = .ok (.iload_n 1, 1) := by decide +kernel
theorem dX1_are_5 : decode cX1_are 5 = .ok (.bipush 10, 2) := by decide +kernel
theorem dX1_are_7 : decode cX1_are 7 = .ok (.imul, 1) := by decide +kernel
theorem dX1_are_8 : decode cX1_are 8 = .ok (.iload_n 2, 1) := by decide +kernel
theorem dX1_are_9 : decode cX1_are 9 = .ok (.iadd, 1) := by decide +kernel
theorem dX1_are_10 : decode cX1_are 10 = .ok (.baload, 1) := by decide +kernel
theorem dX1_are_11 : decode cX1_are 11 = .ok (.ireturn, 1) := by decide +kernel
theorem dX2_init_0 : decode cX2_init 0 = .ok (.aload_n 0, 1) := by decide +kernel
theorem dX2_init_1 : decode cX2_init 1 = .ok (.invokespecial 3, 3) := by decide +kernel
theorem dX2_init_4 : decode cX2_init 4 = .ok (.aload_n 0, 1) := by decide +kernel
theorem dX2_init_5 : decode cX2_init 5 = .ok (.iconst 4, 1) := by decide +kernel
theorem dX2_init_6 : decode cX2_init 6 = .ok (.newarray .int, 2) := by decide +kernel
theorem dX2_init_8 : decode cX2_init 8 = .ok (.putfield 9, 3) := by decide +kernel
theorem dX2_init_11 : decode cX2_init 11 = .ok (.aload_n 0, 1) := by decide +kernel
theorem dX2_init_12 : decode cX2_init 12 = .ok (.iconst 4, 1) := by decide +kernel
theorem dX2_init_13 : decode cX2_init 13 = .ok (.newarray .long, 2) := by decide +kernel
theorem dX2_init_15 : decode cX2_init 15 = .ok (.putfield 15, 3) := by decide +kernel
theorem dX2_init_18 : decode cX2_init 18 = .ok (.aload_n 0, 1) := by decide +kernel
theorem dX2_init_19 : decode cX2_init 19 = .ok (.iconst 4, 1) := by decide +kernel
theorem dX2_init_20 : decode cX2_init 20 = .ok (.newarray .long, 2) := by decide +kernel
theorem dX2_init_22 : decode cX2_init 22 = .ok (.putfield 19, 3) := by decide +kernel
theorem dX2_init_25 : decode cX2_init 25 = .ok (.aload_n 0, 1) := by decide +kernel
theorem dX2_init_26 : decode cX2_init 26 = .ok (.iconst 4, 1) := by decide +kernel
theorem dX2_init_27 : decode cX2_init 27 = .ok (.newarray .long, 2) := by decide +kernel
theorem dX2_init_29 : decode cX2_init 29 = .ok (.putfield 22, 3) := by decide +kernel
theorem dX2_init_32 : decode cX2_init 32 = .ok (.return_, 1) := by decide +kernel
set_option maxRecDepth 20000 in
theorem ggX2_tally_X2_tallyPoll : GoodIn wsX2_tally wsX2_tallyPoll := goodIn_r _ [9, 4, 1, 2, 3, 10, 11, 12, 13, 14, 19, 20, 21, 22, 23, 24, 25, 26, 27, 28, 29, 30, 31, 32, 33, 34, 35, 15, 16, 17, 18] (by decide +kernel) (by decide +kernel)
set_option maxRecDepth 20000 in
theorem gX2_tally_X2_tallyPoll : GoodIn wsX2_tally (wsV RX2 35 RX2 yX2_tallyPoll wsX2_tallyPoll) := goodIn_app (goodIn_of _ (by decide +kernel)) ggX2_tally_X2_tallyPoll
theorem dX2_tally_0 : decode cX2_tally 0 = .ok (.iconst 0, 1) := by decide +kernel
theorem dX2_tally_1 : decode cX2_tally 1 = .ok (.istore 5, 2) := by decide +kernel
theorem dX2_tally_3 : decode cX2_tally 3 = .ok (.iload 5, 2) := by decide +kernel
theorem dX2_tally_5 : decode cX2_tally 5 = .ok (.iconst 4, 1) := by decide +kernel
theorem dX2_tally_6 : decode cX2_tally 6 = .ok (.if_icmp .ge 41, 3) := by decide +kernel
theorem dX2_tally_9 : decode cX2_tally 9 = .ok (.aload_n 0, 1) := by decide +kernel
theorem dX2_tally_10 : decode cX2_tally 10 = .ok (.getfield 9, 3) := by decide +kernel
theorem dX2_tally_13 : decode cX2_tally 13 = .ok (.iload 5, 2) := by decide +kernel
theorem dX2_tally_15 : decode cX2_tally 15 = .ok (.iconst 0, 1) := by decide +kernel
theorem dX2_tally_16 : decode cX2_tally 16 = .ok (.iastore, 1) := by decide +kernel
theorem dX2_tally_17 : decode cX2_tally 17 = .ok (.aload_n 0, 1) := by decide +kernel
theorem dX2_tally_18 : decode cX2_tally 18 = .ok (.getfield 15, 3) := by decide +kernel
theorem dX2_tally_21 : decode cX2_tally 21 = .ok (.iload 5, 2) := by decide +kernel
theorem dX2_tally_23 : decode cX2_tally 23 = .ok (.lconst 0, 1) := by decide +kernel
theorem dX2_tally_24 : decode cX2_tally 24 = .ok (.lastore, 1) := by decide +kernel
theorem dX2_tally_25 : decode cX2_tally 25 = .ok (.aload_n 0, 1) := by decide +kernel
theorem dX2_tally_26 : decode cX2_tally 26 = .ok (.getfield 19, 3) := by decide +kernel
theorem dX2_tally_29 : decode cX2_tally 29 = .ok (.iload 5, 2) := by decide +kernel
theorem dX2_tally_31 : decode cX2_tally 31 = .ok (.lconst 0, 1) := by decide +kernel
theorem dX2_tally_32 : decode cX2_tally 32 = .ok (.lastore, 1) := by decide +kernel
theorem dX2_tally_33 : decode cX2_tally 33 = .ok (.aload_n 0, 1) := by decide +kernel
theorem dX2_tally_34 : decode cX2_tally 34 = .ok (.getfield 22, 3) := by decide +kernel
theorem dX2_tally_37 : decode cX2_tally 37 = .ok (.iload 5, 2) := by decide +kernel
theorem dX2_tally_39 : decode cX2_tally 39 = .ok (.lconst 0, 1) := by decide +kernel
theorem dX2_tally_40 : decode cX2_tally 40 = .ok (.lastore, 1) := by decide +kernel
theorem dX2_tally_41 : decode cX2_tally 41 = .ok (.iinc 5 1, 3) := by decide +kernel
theorem dX2_tally_44 : decode cX2_tally 44 = .ok (.goto (-41), 3) := by decide +kernel
theorem dX2_tally_47 : decode cX2_tally 47 = .ok (.iconst 0, 1) := by decide +kernel
theorem dX2_tally_48 : decode cX2_tally 48 = .ok (.istore 5, 2) := by decide +kernel
theorem dX2_tally_50 : decode cX2_tally 50 = .ok (.iload 5, 2) := by decide +kernel
theorem dX2_tally_52 : decode cX2_tally 52 = .ok (.aload_n 1, 1) := by decide +kernel
theorem dX2_tally_53 : decode cX2_tally 53 = .ok (.getfield 25, 3) := by decide +kernel
theorem dX2_tally_56 : decode cX2_tally 56 = .ok (.if_icmp .ge 30, 3) := by decide +kernel
theorem dX2_tally_59 : decode cX2_tally 59 = .ok (.aload_n 1, 1) := by decide +kernel
theorem dX2_tally_60 : decode cX2_tally 60 = .ok (.getfield 31, 3) := by decide +kernel
theorem dX2_tally_63 : decode cX2_tally 63 = .ok (.iload 5, 2) := by decide +kernel
theorem dX2_tally_65 : decode cX2_tally 65 = .ok (.baload, 1) := by decide +kernel
theorem dX2_tally_66 : decode cX2_tally 66 = .ok (.ifCond .eq 14, 3) := by decide +kernel
theorem dX2_tally_69 : decode cX2_tally 69 = .ok (.aload_n 0, 1) := by decide +kernel
theorem dX2_tally_70 : decode cX2_tally 70 = .ok (.aload_n 1, 1) := by decide +kernel
theorem dX2_tally_71 : decode cX2_tally 71 = .ok (.iload 5, 2) := by decide +kernel
theorem dX2_tally_73 : decode cX2_tally 73 = .ok (.aload_n 2, 1) := by decide +kernel
theorem dX2_tally_74 : decode cX2_tally 74 = .ok (.iload_n 3, 1) := by decide +kernel
theorem dX2_tally_75 : decode cX2_tally 75 = .ok (.iload 4, 2) := by decide +kernel
theorem dX2_tally_77 : decode cX2_tally 77 = .ok (.invokevirtual 35, 3) := by decide +kernel
theorem dX2_tally_80 : decode cX2_tally 80 = .ok (.iinc 5 1, 3) := by decide +kernel
theorem dX2_tally_83 : decode cX2_tally 83 = .ok (.goto (-33), 3) := by decide +kernel
theorem dX2_tally_86 : decode cX2_tally 86 = .ok (.return_, 1) := by decide +kernel
set_option maxRecDepth 20000 in
theorem ggX2_tallyPoll_X5_numberOf : GoodIn wsX2_tallyPoll wsX5_numberOf := goodIn_r _ [8, 9, 18, 19, 20, 21, 22, 23, 24, 25, 26] (by decide +kernel) (by decide +kernel)
set_option maxRecDepth 20000 in
theorem gX2_tallyPoll_X5_numberOf_n50 : GoodIn wsX2_tallyPoll (wsX5_numberOf) := ggX2_tallyPoll_X5_numberOf
theorem dX2_tallyPoll_0 : decode cX2_tallyPoll 0 = .ok (.aload_n 1, 1) := by decide +kernel
theorem dX2_tallyPoll_1 : decode cX2_tallyPoll 1 = .ok (.getfield 39, 3) := by decide +kernel
theorem dX2_tallyPoll_4 : decode cX2_tallyPoll 4 = .ok (.iload_n 2, 1) := by decide +kernel
theorem dX2_tallyPoll_5 : decode cX2_tallyPoll 5 = .ok (.iaload, 1) := by decide +kernel
theorem dX2_tallyPoll_6 : decode cX2_tallyPoll 6 = .ok (.istore 6, 2) := by decide +kernel
theorem dX2_tallyPoll_8 : decode cX2_tallyPoll 8 = .ok (.aload_n 3, 1) := by decide +kernel
theorem dX2_tallyPoll_9 : decode cX2_tallyPoll 9 = .ok (.getfield 42, 3) := by decide +kernel
theorem dX2_tallyPoll_12 : decode cX2_tallyPoll 12 = .ok (.iload_n 2, 1) := by decide +kernel
theorem dX2_tallyPoll_13 : decode cX2_tallyPoll 13 = .ok (.iaload, 1) := by decide +kernel
theorem dX2_tallyPoll_14 : decode cX2_tallyPoll 14 = .ok (.istore 7, 2) := by decide +kernel
theorem dX2_tallyPoll_16 : decode cX2_tallyPoll 16 = .ok (.iload 7, 2) := by decide +kernel
theorem dX2_tallyPoll_18 : decode cX2_tallyPoll 18 = .ok (.iconst (-1), 1) := by decide +kernel
theorem dX2_tallyPoll_19 : decode cX2_tallyPoll 19 = .ok (.if_icmp .ne 21, 3) := by decide +kernel
theorem dX2_tallyPoll_22 : decode cX2_tallyPoll 22 = .ok (.aload_n 0, 1) := by decide +kernel
theorem dX2_tallyPoll_23 : decode cX2_tallyPoll 23 = .ok (.getfield 22, 3) := by decide +kernel
theorem dX2_tallyPoll_26 : decode cX2_tallyPoll 26 = .ok (.iload 6, 2) := by decide +kernel
theorem dX2_tallyPoll_28 : decode cX2_tallyPoll 28 = .ok (.dup2, 1) := by decide +kernel
theorem dX2_tallyPoll_29 : decode cX2_tallyPoll 29 = .ok (.laload, 1) := by decide +kernel
theorem dX2_tallyPoll_30 : decode cX2_tallyPoll 30 = .ok (.aload_n 1, 1) := by decide +kernel
theorem dX2_tallyPoll_31 : decode cX2_tallyPoll 31 = .ok (.getfield 47, 3) := by decide +kernel
theorem dX2_tallyPoll_34 : decode cX2_tallyPoll 34 = .ok (.iload_n 2, 1) := by decide +kernel
theorem dX2_tallyPoll_35 : decode cX2_tallyPoll 35 = .ok (.iaload, 1) := by decide +kernel
theorem dX2_tallyPoll_36 : decode cX2_tallyPoll 36 = .ok (.i2l, 1) := by decide +kernel
theorem dX2_tallyPoll_37 : decode cX2_tallyPoll 37 = .ok (.ladd, 1) := by decide +kernel
theorem dX2_tallyPoll_38 : decode cX2_tallyPoll 38 = .ok (.lastore, 1) := by decide +kernel
theorem dX2_tallyPoll_39 : decode cX2_tallyPoll 39 = .ok (.return_, 1) := by decide +kernel
theorem dX2_tallyPoll_40 : decode cX2_tallyPoll 40 = .ok (.aload_n 3, 1) := by decide +kernel
theorem dX2_tallyPoll_41 : decode cX2_tallyPoll 41 = .ok (.iload 7, 2) := by decide +kernel
theorem dX2_tallyPoll_43 : decode cX2_tallyPoll 43 = .ok (.iload 4, 2) := by decide +kernel
theorem dX2_tallyPoll_45 : decode cX2_tallyPoll 45 = .ok (.invokevirtual 50, 3) := by decide +kernel
theorem dX2_tallyPoll_48 : decode cX2_tallyPoll 48 = .ok (.i2l, 1) := by decide +kernel
theorem dX2_tallyPoll_49 : decode cX2_tallyPoll 49 = .ok (.lstore 8, 2) := by decide +kernel
theorem dX2_tallyPoll_51 : decode cX2_tallyPoll 51 = .ok (.iload 5, 2) := by decide +kernel
theorem dX2_tallyPoll_53 : decode cX2_tallyPoll 53 = .ok (.iconst (-1), 1) := by decide +kernel
theorem dX2_tallyPoll_54 : decode cX2_tallyPoll 54 = .ok (.if_icmp .eq 17, 3) := by decide +kernel
theorem dX2_tallyPoll_57 : decode cX2_tallyPoll 57 = .ok (.lload 8, 2) := by decide +kernel
theorem dX2_tallyPoll_59 : decode cX2_tallyPoll 59 = .ok (.aload_n 3, 1) := by decide +kernel
theorem dX2_tallyPoll_60 : decode cX2_tallyPoll 60 = .ok (.iload 7, 2) := by decide +kernel
theorem dX2_tallyPoll_62 : decode cX2_tallyPoll 62 = .ok (.iload 5, 2) := by decide +kernel
theorem dX2_tallyPoll_64 : decode cX2_tallyPoll 64 = .ok (.invokevirtual 50, 3) := by decide +kernel
theorem dX2_tallyPoll_67 : decode cX2_tallyPoll 67 = .ok (.i2l, 1) := by decide +kernel
theorem dX2_tallyPoll_68 : decode cX2_tallyPoll 68 = .ok (.lsub, 1) := by decide +kernel
theorem dX2_tallyPoll_69 : decode cX2_tallyPoll 69 = .ok (.lstore 8, 2) := by decide +kernel
theorem dX2_tallyPoll_71 : decode cX2_tallyPoll 71 = .ok (.aload_n 0, 1) := by decide +kernel
theorem dX2_tallyPoll_72 : decode cX2_tallyPoll 72 = .ok (.getfield 9, 3) := by decide +kernel
theorem dX2_tallyPoll_75 : decode cX2_tallyPoll 75 = .ok (.iload 6, 2) := by decide +kernel
theorem dX2_tallyPoll_77 : decode cX2_tallyPoll 77 = .ok (.dup2, 1) := by decide +kernel
theorem dX2_tallyPoll_78 : decode cX2_tallyPoll 78 = .ok (.iaload, 1) := by decide +kernel
theorem dX2_tallyPoll_79 : decode cX2_tallyPoll 79 = .ok (.iconst 1, 1) := by decide +kernel
theorem dX2_tallyPoll_80 : decode cX2_tallyPoll 80 = .ok (.iadd, 1) := by decide +kernel
theorem dX2_tallyPoll_81 : decode cX2_tallyPoll 81 = .ok (.iastore, 1) := by decide +kernel
theorem dX2_tallyPoll_82 : decode cX2_tallyPoll 82 = .ok (.aload_n 0, 1) := by decide +kernel
theorem dX2_tallyPoll_83 : decode cX2_tallyPoll 83 = .ok (.getfield 15, 3) := by decide +kernel
theorem dX2_tallyPoll_86 : decode cX2_tallyPoll 86 = .ok (.iload 6, 2) := by decide +kernel
theorem dX2_tallyPoll_88 : decode cX2_tallyPoll 88 = .ok (.dup2, 1) := by decide +kernel
theorem dX2_tallyPoll_89 : decode cX2_tallyPoll 89 = .ok (.laload, 1) := by decide +kernel
theorem dX2_tallyPoll_90 : decode cX2_tallyPoll 90 = .ok (.lload 8, 2) := by decide +kernel
theorem dX2_tallyPoll_92 : decode cX2_tallyPoll 92 = .ok (.ladd, 1) := by decide +kernel
theorem dX2_tallyPoll_93 : decode cX2_tallyPoll 93 = .ok (.lastore, 1) := by decide +kernel
theorem dX2_tallyPoll_94 : decode cX2_tallyPoll 94 = .ok (.aload_n 0, 1) := by decide +kernel
theorem dX2_tallyPoll_95 : decode cX2_tallyPoll 95 = .ok (.getfield 19, 3) := by decide +kernel
theorem dX2_tallyPoll_98 : decode cX2_tallyPoll 98 = .ok (.iload 6, 2) := by decide +kernel
theorem dX2_tallyPoll_100 : decode cX2_tallyPoll 100 = .ok (.dup2, 1) := by decide +kernel
theorem dX2_tallyPoll_101 : decode cX2_tallyPoll 101 = .ok (.laload, 1) := by decide +kernel
theorem dX2_tallyPoll_102 : decode cX2_tallyPoll 102 = .ok (.lload 8, 2) := by decide +kernel
theorem dX2_tallyPoll_104 : decode cX2_tallyPoll 104 = .ok (.lload 8, 2) := by decide +kernel
theorem dX2_tallyPoll_106 : decode cX2_tallyPoll 106 = .ok (.lmul, 1) := by decide +kernel
theorem dX2_tallyPoll_107 : decode cX2_tallyPoll 107 = .ok (.ladd, 1) := by decide +kernel
theorem dX2_tallyPoll_108 : decode cX2_tallyPoll 108 = .ok (.lastore, 1) := by decide +kernel
theorem dX2_tallyPoll_109 : decode cX2_tallyPoll 109 = .ok (.return_, 1) := by decide +kernel
set_option maxRecDepth 20000 in
theorem ggX2_hasEnough_X4_hasDraw : GoodIn wsX2_hasEnough wsX4_hasDraw := goodIn_r _ [5, 6, 7, 8, 9, 10, 11, 12, 13, 14] (by decide +kernel) (by decide +kernel)
set_option maxRecDepth 20000 in
theorem gX2_hasEnough_X4_hasDraw_n57 : GoodIn wsX2_hasEnough (wsX4_hasDraw) := ggX2_hasEnough_X4_hasDraw
theorem dX2_hasEnough_0 : decode cX2_hasEnough 0 = .ok (.iconst 0, 1) := by decide +kernel
theorem dX2_hasEnough_1 : decode cX2_hasEnough 1 = .ok (.istore_n 3, 1) := by decide +kernel
theorem dX2_hasEnough_2 : decode cX2_hasEnough 2 = .ok (.iload_n 3, 1) := by decide +kernel
theorem dX2_hasEnough_3 : decode cX2_hasEnough 3 = .ok (.iconst 4, 1) := by decide +kernel
theorem dX2_hasEnough_4 : decode cX2_hasEnough 4 = .ok (.if_icmp .ge 30, 3) := by decide +kernel
theorem dX2_hasEnough_7 : decode cX2_hasEnough 7 = .ok (.aload_n 1, 1) := by decide +kernel
theorem dX2_hasEnough_8 : decode cX2_hasEnough 8 = .ok (.getfield 54, 3) := by decide +kernel
theorem dX2_hasEnough_11 : decode cX2_hasEnough 11 = .ok (.iload_n 3, 1) := by decide +kernel
theorem dX2_hasEnough_12 : decode cX2_hasEnough 12 = .ok (.iaload, 1) := by decide +kernel
theorem dX2_hasEnough_13 : decode cX2_hasEnough 13 = .ok (.ifCond .le 15, 3) := by decide +kernel
theorem dX2_hasEnough_16 : decode cX2_hasEnough 16 = .ok (.aload_n 0, 1) := by decide +kernel
theorem dX2_hasEnough_17 : decode cX2_hasEnough 17 = .ok (.getfield 9, 3) := by decide +kernel
theorem dX2_hasEnough_20 : decode cX2_hasEnough 20 = .ok (.iload_n 3, 1) := by decide +kernel
theorem dX2_hasEnough_21 : decode cX2_hasEnough 21 = .ok (.iaload, 1) := by decide +kernel
theorem dX2_hasEnough_22 : decode cX2_hasEnough 22 = .ok (.iload_n 2, 1) := by decide +kernel
theorem dX2_hasEnough_23 : decode cX2_hasEnough 23 = .ok (.if_icmp .ge 5, 3) := by decide +kernel
theorem dX2_hasEnough_26 : decode cX2_hasEnough 26 = .ok (.iconst 0, 1) := by decide +kernel
theorem dX2_hasEnough_27 : decode cX2_hasEnough 27 = .ok (.ireturn, 1) := by decide +kernel
theorem dX2_hasEnough_28 : decode cX2_hasEnough 28 = .ok (.iinc 3 1, 3) := by decide +kernel
theorem dX2_hasEnough_31 : decode cX2_hasEnough 31 = .ok (.goto (-29), 3) := by decide +kernel
theorem dX2_hasEnough_34 : decode cX2_hasEnough 34 = .ok (.aload_n 1, 1) := by decide +kernel
theorem dX2_hasEnough_35 : decode cX2_hasEnough 35 = .ok (.invokevirtual 57, 3) := by decide +kernel
theorem dX2_hasEnough_38 : decode cX2_hasEnough 38 = .ok (.ireturn, 1) := by decide +kernel
set_option maxRecDepth 20000 in
theorem ggX2_tellSum_X0_clear : GoodIn wsX2_tellSum wsX0_clear := goodIn_r _ [6, 7, 8, 36, 37] (by decide +kernel) (by decide +kernel)
set_option maxRecDepth 20000 in
theorem gX2_tellSum_X0_clear_n61 : GoodIn wsX2_tellSum (wsX0_clear) := ggX2_tellSum_X0_clear
set_option maxRecDepth 20000 in
theorem ggX2_tellSum_X0_add : GoodIn wsX2_tellSum wsX0_add := goodIn_r _ [11, 8, 7, 12, 13, 4, 14, 15, 16, 17, 18, 19, 20, 21, 22, 23, 3, 5, 6, 36, 37] (by decide +kernel) (by decide +kernel)
set_option maxRecDepth 20000 in
theorem gX2_tellSum_X0_add_n66 : GoodIn wsX2_tellSum (wsX0_add) := ggX2_tellSum_X0_add
theorem dX2_tellSum_0 : decode cX2_tellSum 0 = .ok (.aload_n 2, 1) := by decide +kernel
theorem dX2_tellSum_1 : decode cX2_tellSum 1 = .ok (.invokevirtual 61, 3) := by decide +kernel
theorem dX2_tellSum_4 : decode cX2_tellSum 4 = .ok (.iconst 0, 1) := by decide +kernel
theorem dX2_tellSum_5 : decode cX2_tellSum 5 = .ok (.istore_n 3, 1) := by decide +kernel
theorem dX2_tellSum_6 : decode cX2_tellSum 6 = .ok (.iload_n 3, 1) := by decide +kernel
theorem dX2_tellSum_7 : decode cX2_tellSum 7 = .ok (.iconst 4, 1) := by decide +kernel
theorem dX2_tellSum_8 : decode cX2_tellSum 8 = .ok (.if_icmp .ge 52, 3) := by decide +kernel
theorem dX2_tellSum_11 : decode cX2_tellSum 11 = .ok (.aload_n 1, 1) := by decide +kernel
theorem dX2_tellSum_12 : decode cX2_tellSum 12 = .ok (.getfield 54, 3) := by decide +kernel
theorem dX2_tellSum_15 : decode cX2_tellSum 15 = .ok (.iload_n 3, 1) := by decide +kernel
theorem dX2_tellSum_16 : decode cX2_tellSum 16 = .ok (.iaload, 1) := by decide +kernel
theorem dX2_tellSum_17 : decode cX2_tellSum 17 = .ok (.ifCond .le 37, 3) := by decide +kernel
theorem dX2_tellSum_20 : decode cX2_tellSum 20 = .ok (.aload_n 0, 1) := by decide +kernel
theorem dX2_tellSum_21 : decode cX2_tellSum 21 = .ok (.getfield 9, 3) := by decide +kernel
theorem dX2_tellSum_24 : decode cX2_tellSum 24 = .ok (.iload_n 3, 1) := by decide +kernel
theorem dX2_tellSum_25 : decode cX2_tellSum 25 = .ok (.iaload, 1) := by decide +kernel
theorem dX2_tellSum_26 : decode cX2_tellSum 26 = .ok (.ifCond .le 28, 3) := by decide +kernel
theorem dX2_tellSum_29 : decode cX2_tellSum 29 = .ok (.aload_n 2, 1) := by decide +kernel
theorem dX2_tellSum_30 : decode cX2_tellSum 30 = .ok (.aload_n 1, 1) := by decide +kernel
theorem dX2_tellSum_31 : decode cX2_tellSum 31 = .ok (.getfield 54, 3) := by decide +kernel
theorem dX2_tellSum_34 : decode cX2_tellSum 34 = .ok (.iload_n 3, 1) := by decide +kernel
theorem dX2_tellSum_35 : decode cX2_tellSum 35 = .ok (.iaload, 1) := by decide +kernel
theorem dX2_tellSum_36 : decode cX2_tellSum 36 = .ok (.i2l, 1) := by decide +kernel
theorem dX2_tellSum_37 : decode cX2_tellSum 37 = .ok (.aload_n 0, 1) := by decide +kernel
theorem dX2_tellSum_38 : decode cX2_tellSum 38 = .ok (.getfield 15, 3) := by decide +kernel
theorem dX2_tellSum_41 : decode cX2_tellSum 41 = .ok (.iload_n 3, 1) := by decide +kernel
theorem dX2_tellSum_42 : decode cX2_tellSum 42 = .ok (.laload, 1) := by decide +kernel
theorem dX2_tellSum_43 : decode cX2_tellSum 43 = .ok (.lmul, 1) := by decide +kernel
theorem dX2_tellSum_44 : decode cX2_tellSum 44 = .ok (.aload_n 0, 1) := by decide +kernel
theorem dX2_tellSum_45 : decode cX2_tellSum 45 = .ok (.getfield 9, 3) := by decide +kernel
theorem dX2_tellSum_48 : decode cX2_tellSum 48 = .ok (.iload_n 3, 1) := by decide +kernel
theorem dX2_tellSum_49 : decode cX2_tellSum 49 = .ok (.iaload, 1) := by decide +kernel
theorem dX2_tellSum_50 : decode cX2_tellSum 50 = .ok (.i2l, 1) := by decide +kernel
theorem dX2_tellSum_51 : decode cX2_tellSum 51 = .ok (.invokevirtual 66, 3) := by decide +kernel
theorem dX2_tellSum_54 : decode cX2_tellSum 54 = .ok (.iinc 3 1, 3) := by decide +kernel
theorem dX2_tellSum_57 : decode cX2_tellSum 57 = .ok (.goto (-51), 3) := by decide +kernel
theorem dX2_tellSum_60 : decode cX2_tellSum 60 = .ok (.return_, 1) := by decide +kernel
set_option maxRecDepth 20000 in
theorem ggX2_tellDoubt_X0_clear : GoodIn wsX2_tellDoubt wsX0_clear := goodIn_r _ [7, 8, 9, 37, 38] (by decide +kernel) (by decide +kernel)
set_option maxRecDepth 20000 in
theorem gX2_tellDoubt_X0_clear_n61 : GoodIn wsX2_tellDoubt (wsX0_clear) := ggX2_tellDoubt_X0_clear
set_option maxRecDepth 20000 in
theorem ggX2_tellDoubt_X0_add : GoodIn wsX2_tellDoubt wsX0_add := goodIn_r _ [12, 9, 8, 13, 14, 5, 15, 16, 17, 18, 19, 20, 21, 22, 23, 24, 4, 6, 7, 37, 38] (by decide +kernel) (by decide +kernel)
set_option maxRecDepth 20000 in
theorem gX2_tellDoubt_X0_add_n66 : GoodIn wsX2_tellDoubt (wsX0_add) := ggX2_tellDoubt_X0_add
theorem dX2_tellDoubt_0 : decode cX2_tellDoubt 0 = .ok (.aload_n 2, 1) := by decide +kernel
theorem dX2_tellDoubt_1 : decode cX2_tellDoubt 1 = .ok (.invokevirtual 61, 3) := by decide +kernel
theorem dX2_tellDoubt_4 : decode cX2_tellDoubt 4 = .ok (.iconst 0, 1) := by decide +kernel
theorem dX2_tellDoubt_5 : decode cX2_tellDoubt 5 = .ok (.istore_n 3, 1) := by decide +kernel
theorem dX2_tellDoubt_6 : decode cX2_tellDoubt 6 = .ok (.iload_n 3, 1) := by decide +kernel
theorem dX2_tellDoubt_7 : decode cX2_tellDoubt 7 = .ok (.iconst 4, 1) := by decide +kernel
theorem dX2_tellDoubt_8 : decode cX2_tellDoubt 8 = .ok (.if_icmp .ge 94, 3) := by decide +kernel
theorem dX2_tellDoubt_11 : decode cX2_tellDoubt 11 = .ok (.aload_n 0, 1) := by decide +kernel
theorem dX2_tellDoubt_12 : decode cX2_tellDoubt 12 = .ok (.getfield 9, 3) := by decide +kernel
theorem dX2_tellDoubt_15 : decode cX2_tellDoubt 15 = .ok (.iload_n 3, 1) := by decide +kernel
theorem dX2_tellDoubt_16 : decode cX2_tellDoubt 16 = .ok (.iaload, 1) := by decide +kernel
theorem dX2_tellDoubt_17 : decode cX2_tellDoubt 17 = .ok (.i2l, 1) := by decide +kernel
theorem dX2_tellDoubt_18 : decode cX2_tellDoubt 18 = .ok (.lstore 4, 2) := by decide +kernel
theorem dX2_tellDoubt_20 : decode cX2_tellDoubt 20 = .ok (.aload_n 1, 1) := by decide +kernel
theorem dX2_tellDoubt_21 : decode cX2_tellDoubt 21 = .ok (.getfield 54, 3) := by decide +kernel
theorem dX2_tellDoubt_24 : decode cX2_tellDoubt 24 = .ok (.iload_n 3, 1) := by decide +kernel
theorem dX2_tellDoubt_25 : decode cX2_tellDoubt 25 = .ok (.iaload, 1) := by decide +kernel
theorem dX2_tellDoubt_26 : decode cX2_tellDoubt 26 = .ok (.ifCond .le 70, 3) := by decide +kernel
theorem dX2_tellDoubt_29 : decode cX2_tellDoubt 29 = .ok (.lload 4, 2) := by decide +kernel
theorem dX2_tellDoubt_31 : decode cX2_tellDoubt 31 = .ok (.lconst 1, 1) := by decide +kernel
theorem dX2_tellDoubt_32 : decode cX2_tellDoubt 32 = .ok (.lcmp, 1) := by decide +kernel
theorem dX2_tellDoubt_33 : decode cX2_tellDoubt 33 = .ok (.ifCond .le 63, 3) := by decide +kernel
theorem dX2_tellDoubt_36 : decode cX2_tellDoubt 36 = .ok (.lload 4, 2) := by decide +kernel
theorem dX2_tellDoubt_38 : decode cX2_tellDoubt 38 = .ok (.aload_n 0, 1) := by decide +kernel
theorem dX2_tellDoubt_39 : decode cX2_tellDoubt 39 = .ok (.getfield 19, 3) := by decide +kernel
theorem dX2_tellDoubt_42 : decode cX2_tellDoubt 42 = .ok (.iload_n 3, 1) := by decide +kernel
theorem dX2_tellDoubt_43 : decode cX2_tellDoubt 43 = .ok (.laload, 1) := by decide +kernel
theorem dX2_tellDoubt_44 : decode cX2_tellDoubt 44 = .ok (.lmul, 1) := by decide +kernel
theorem dX2_tellDoubt_45 : decode cX2_tellDoubt 45 = .ok (.aload_n 0, 1) := by decide +kernel
theorem dX2_tellDoubt_46 : decode cX2_tellDoubt 46 = .ok (.getfield 15, 3) := by decide +kernel
theorem dX2_tellDoubt_49 : decode cX2_tellDoubt 49 = .ok (.iload_n 3, 1) := by decide +kernel
theorem dX2_tellDoubt_50 : decode cX2_tellDoubt 50 = .ok (.laload, 1) := by decide +kernel
theorem dX2_tellDoubt_51 : decode cX2_tellDoubt 51 = .ok (.aload_n 0, 1) := by decide +kernel
theorem dX2_tellDoubt_52 : decode cX2_tellDoubt 52 = .ok (.getfield 15, 3) := by decide +kernel
theorem dX2_tellDoubt_55 : decode cX2_tellDoubt 55 = .ok (.iload_n 3, 1) := by decide +kernel
theorem dX2_tellDoubt_56 : decode cX2_tellDoubt 56 = .ok (.laload, 1) := by decide +kernel
theorem dX2_tellDoubt_57 : decode cX2_tellDoubt 57 = .ok (.lmul, 1) := by decide +kernel
theorem dX2_tellDoubt_58 : decode cX2_tellDoubt 58 = .ok (.lsub, 1) := by decide +kernel
theorem dX2_tellDoubt_59 : decode cX2_tellDoubt 59 = .ok (.lstore 6, 2) := by decide +kernel
theorem dX2_tellDoubt_61 : decode cX2_tellDoubt 61 = .ok (.aload_n 2, 1) := by decide +kernel
theorem dX2_tellDoubt_62 : decode cX2_tellDoubt 62 = .ok (.aload_n 1, 1) := by decide +kernel
theorem dX2_tellDoubt_63 : decode cX2_tellDoubt 63 = .ok (.getfield 54, 3) := by decide +kernel
theorem dX2_tellDoubt_66 : decode cX2_tellDoubt 66 = .ok (.iload_n 3, 1) := by decide +kernel
theorem dX2_tellDoubt_67 : decode cX2_tellDoubt 67 = .ok (.iaload, 1) := by decide +kernel
theorem dX2_tellDoubt_68 : decode cX2_tellDoubt 68 = .ok (.i2l, 1) := by decide +kernel
theorem dX2_tellDoubt_69 : decode cX2_tellDoubt 69 = .ok (.aload_n 1, 1) := by decide +kernel
theorem dX2_tellDoubt_70 : decode cX2_tellDoubt 70 = .ok (.getfield 54, 3) := by decide +kernel
theorem dX2_tellDoubt_73 : decode cX2_tellDoubt 73 = .ok (.iload_n 3, 1) := by decide +kernel
theorem dX2_tellDoubt_74 : decode cX2_tellDoubt 74 = .ok (.iaload, 1) := by decide +kernel
theorem dX2_tellDoubt_75 : decode cX2_tellDoubt 75 = .ok (.i2l, 1) := by decide +kernel
theorem dX2_tellDoubt_76 : decode cX2_tellDoubt 76 = .ok (.lload 4, 2) := by decide +kernel
theorem dX2_tellDoubt_78 : decode cX2_tellDoubt 78 = .ok (.lsub, 1) := by decide +kernel
theorem dX2_tellDoubt_79 : decode cX2_tellDoubt 79 = .ok (.lmul, 1) := by decide +kernel
theorem dX2_tellDoubt_80 : decode cX2_tellDoubt 80 = .ok (.lload 6, 2) := by decide +kernel
theorem dX2_tellDoubt_82 : decode cX2_tellDoubt 82 = .ok (.lmul, 1) := by decide +kernel
theorem dX2_tellDoubt_83 : decode cX2_tellDoubt 83 = .ok (.lload 4, 2) := by decide +kernel
theorem dX2_tellDoubt_85 : decode cX2_tellDoubt 85 = .ok (.lload 4, 2) := by decide +kernel
theorem dX2_tellDoubt_87 : decode cX2_tellDoubt 87 = .ok (.lmul, 1) := by decide +kernel
theorem dX2_tellDoubt_88 : decode cX2_tellDoubt 88 = .ok (.lload 4, 2) := by decide +kernel
theorem dX2_tellDoubt_90 : decode cX2_tellDoubt 90 = .ok (.lconst 1, 1) := by decide +kernel
theorem dX2_tellDoubt_91 : decode cX2_tellDoubt 91 = .ok (.lsub, 1) := by decide +kernel
theorem dX2_tellDoubt_92 : decode cX2_tellDoubt 92 = .ok (.lmul, 1) := by decide +kernel
theorem dX2_tellDoubt_93 : decode cX2_tellDoubt 93 = .ok (.invokevirtual 66, 3) := by decide +kernel
theorem dX2_tellDoubt_96 : decode cX2_tellDoubt 96 = .ok (.iinc 3 1, 3) := by decide +kernel
theorem dX2_tellDoubt_99 : decode cX2_tellDoubt 99 = .ok (.goto (-93), 3) := by decide +kernel
theorem dX2_tellDoubt_102 : decode cX2_tellDoubt 102 = .ok (.return_, 1) := by decide +kernel
set_option maxRecDepth 20000 in
theorem ggX2_tellWorst_X0_clear : GoodIn wsX2_tellWorst wsX0_clear := goodIn_r _ [6, 7, 8, 36, 37] (by decide +kernel) (by decide +kernel)
set_option maxRecDepth 20000 in
theorem gX2_tellWorst_X0_clear_n61 : GoodIn wsX2_tellWorst (wsX0_clear) := ggX2_tellWorst_X0_clear
set_option maxRecDepth 20000 in
theorem ggX2_tellWorst_X0_add : GoodIn wsX2_tellWorst wsX0_add := goodIn_r _ [11, 8, 7, 12, 13, 4, 14, 15, 16, 17, 18, 19, 20, 21, 22, 23, 3, 5, 6, 36, 37] (by decide +kernel) (by decide +kernel)
set_option maxRecDepth 20000 in
theorem gX2_tellWorst_X0_add_n66 : GoodIn wsX2_tellWorst (wsX0_add) := ggX2_tellWorst_X0_add
theorem dX2_tellWorst_0 : decode cX2_tellWorst 0 = .ok (.aload_n 3, 1) := by decide +kernel
theorem dX2_tellWorst_1 : decode cX2_tellWorst 1 = .ok (.invokevirtual 61, 3) := by decide +kernel
theorem dX2_tellWorst_4 : decode cX2_tellWorst 4 = .ok (.iconst 0, 1) := by decide +kernel
theorem dX2_tellWorst_5 : decode cX2_tellWorst 5 = .ok (.istore 4, 2) := by decide +kernel
theorem dX2_tellWorst_7 : decode cX2_tellWorst 7 = .ok (.iload 4, 2) := by decide +kernel
theorem dX2_tellWorst_9 : decode cX2_tellWorst 9 = .ok (.iconst 4, 1) := by decide +kernel
theorem dX2_tellWorst_10 : decode cX2_tellWorst 10 = .ok (.if_icmp .ge 67, 3) := by decide +kernel
theorem dX2_tellWorst_13 : decode cX2_tellWorst 13 = .ok (.aload_n 1, 1) := by decide +kernel
theorem dX2_tellWorst_14 : decode cX2_tellWorst 14 = .ok (.getfield 54, 3) := by decide +kernel
theorem dX2_tellWorst_17 : decode cX2_tellWorst 17 = .ok (.iload 4, 2) := by decide +kernel
theorem dX2_tellWorst_19 : decode cX2_tellWorst 19 = .ok (.iaload, 1) := by decide +kernel
theorem dX2_tellWorst_20 : decode cX2_tellWorst 20 = .ok (.ifCond .le 51, 3) := by decide +kernel
theorem dX2_tellWorst_23 : decode cX2_tellWorst 23 = .ok (.aload_n 0, 1) := by decide +kernel
theorem dX2_tellWorst_24 : decode cX2_tellWorst 24 = .ok (.getfield 15, 3) := by decide +kernel
theorem dX2_tellWorst_27 : decode cX2_tellWorst 27 = .ok (.iload 4, 2) := by decide +kernel
theorem dX2_tellWorst_29 : decode cX2_tellWorst 29 = .ok (.laload, 1) := by decide +kernel
theorem dX2_tellWorst_30 : decode cX2_tellWorst 30 = .ok (.iload_n 2, 1) := by decide +kernel
theorem dX2_tellWorst_31 : decode cX2_tellWorst 31 = .ok (.ifCond .eq 13, 3) := by decide +kernel
theorem dX2_tellWorst_34 : decode cX2_tellWorst 34 = .ok (.aload_n 0, 1) := by decide +kernel
theorem dX2_tellWorst_35 : decode cX2_tellWorst 35 = .ok (.getfield 22, 3) := by decide +kernel
theorem dX2_tellWorst_38 : decode cX2_tellWorst 38 = .ok (.iload 4, 2) := by decide +kernel
theorem dX2_tellWorst_40 : decode cX2_tellWorst 40 = .ok (.laload, 1) := by decide +kernel
theorem dX2_tellWorst_41 : decode cX2_tellWorst 41 = .ok (.goto 4, 3) := by decide +kernel
theorem dX2_tellWorst_44 : decode cX2_tellWorst 44 = .ok (.lconst 0, 1) := by decide +kernel
theorem dX2_tellWorst_45 : decode cX2_tellWorst 45 = .ok (.ladd, 1) := by decide +kernel
theorem dX2_tellWorst_46 : decode cX2_tellWorst 46 = .ok (.lstore 5, 2) := by decide +kernel
theorem dX2_tellWorst_48 : decode cX2_tellWorst 48 = .ok (.aload_n 3, 1) := by decide +kernel
theorem dX2_tellWorst_49 : decode cX2_tellWorst 49 = .ok (.aload_n 1, 1) := by decide +kernel
theorem dX2_tellWorst_50 : decode cX2_tellWorst 50 = .ok (.getfield 54, 3) := by decide +kernel
theorem dX2_tellWorst_53 : decode cX2_tellWorst 53 = .ok (.iload 4, 2) := by decide +kernel
theorem dX2_tellWorst_55 : decode cX2_tellWorst 55 = .ok (.iaload, 1) := by decide +kernel
theorem dX2_tellWorst_56 : decode cX2_tellWorst 56 = .ok (.i2l, 1) := by decide +kernel
theorem dX2_tellWorst_57 : decode cX2_tellWorst 57 = .ok (.lload 5, 2) := by decide +kernel
theorem dX2_tellWorst_59 : decode cX2_tellWorst 59 = .ok (.lmul, 1) := by decide +kernel
theorem dX2_tellWorst_60 : decode cX2_tellWorst 60 = .ok (.aload_n 1, 1) := by decide +kernel
theorem dX2_tellWorst_61 : decode cX2_tellWorst 61 = .ok (.getfield 70, 3) := by decide +kernel
theorem dX2_tellWorst_64 : decode cX2_tellWorst 64 = .ok (.iload 4, 2) := by decide +kernel
theorem dX2_tellWorst_66 : decode cX2_tellWorst 66 = .ok (.iaload, 1) := by decide +kernel
theorem dX2_tellWorst_67 : decode cX2_tellWorst 67 = .ok (.i2l, 1) := by decide +kernel
theorem dX2_tellWorst_68 : decode cX2_tellWorst 68 = .ok (.invokevirtual 66, 3) := by decide +kernel
theorem dX2_tellWorst_71 : decode cX2_tellWorst 71 = .ok (.iinc 4 1, 3) := by decide +kernel
theorem dX2_tellWorst_74 : decode cX2_tellWorst 74 = .ok (.goto (-67), 3) := by decide +kernel
theorem dX2_tellWorst_77 : decode cX2_tellWorst 77 = .ok (.return_, 1) := by decide +kernel
theorem dX3_init_0 : decode cX3_init 0 = .ok (.aload_n 0, 1) := by decide +kernel
theorem dX3_init_1 : decode cX3_init 1 = .ok (.invokespecial 3, 3) := by decide +kernel
theorem dX3_init_4 : decode cX3_init 4 = .ok (.aload_n 0, 1) := by decide +kernel
theorem dX3_init_5 : decode cX3_init 5 = .ok (.bipush 40, 2) := by decide +kernel
theorem dX3_init_7 : decode cX3_init 7 = .ok (.newarray .boolean, 2) := by decide +kernel
theorem dX3_init_9 : decode cX3_init 9 = .ok (.putfield 9, 3) := by decide +kernel
theorem dX3_init_12 : decode cX3_init 12 = .ok (.aload_n 0, 1) := by decide +kernel
theorem dX3_init_13 : decode cX3_init 13 = .ok (.sipush 160, 3) := by decide +kernel
theorem dX3_init_16 : decode cX3_init 16 = .ok (.newarray .int, 2) := by decide +kernel
theorem dX3_init_18 : decode cX3_init 18 = .ok (.putfield 15, 3) := by decide +kernel
theorem dX3_init_21 : decode cX3_init 21 = .ok (.return_, 1) := by decide +kernel
set_option maxRecDepth 20000 in
theorem ggX3_put_X6_at : GoodIn wsX3_put wsX6_at := goodIn_r _ [7, 8, 15, 16, 17] (by decide +kernel) (by decide +kernel)
set_option maxRecDepth 20000 in
theorem gX3_put_X6_at_n19 : GoodIn wsX3_put (wsX6_at) := ggX3_put_X6_at
theorem dX3_put_0 : decode cX3_put 0 = .ok (.iconst 0, 1) := by decide +kernel
theorem dX3_put_1 : decode cX3_put 1 = .ok (.istore 5, 2) := by decide +kernel
theorem dX3_put_3 : decode cX3_put 3 = .ok (.iload 5, 2) := by decide +kernel
theorem dX3_put_5 : decode cX3_put 5 = .ok (.iload 4, 2) := by decide +kernel
theorem dX3_put_7 : decode cX3_put 7 = .ok (.if_icmp .ge 28, 3) := by decide +kernel
theorem dX3_put_10 : decode cX3_put 10 = .ok (.aload_n 0, 1) := by decide +kernel
theorem dX3_put_11 : decode cX3_put 11 = .ok (.getfield 15, 3) := by decide +kernel
theorem dX3_put_14 : decode cX3_put 14 = .ok (.iload_n 1, 1) := by decide +kernel
theorem dX3_put_15 : decode cX3_put 15 = .ok (.iconst 4, 1) := by decide +kernel
theorem dX3_put_16 : decode cX3_put 16 = .ok (.imul, 1) := by decide +kernel
theorem dX3_put_17 : decode cX3_put 17 = .ok (.iload 5, 2) := by decide +kernel
theorem dX3_put_19 : decode cX3_put 19 = .ok (.iadd, 1) := by decide +kernel
theorem dX3_put_20 : decode cX3_put 20 = .ok (.aload_n 2, 1) := by decide +kernel
theorem dX3_put_21 : decode cX3_put 21 = .ok (.iload_n 3, 1) := by decide +kernel
theorem dX3_put_22 : decode cX3_put 22 = .ok (.iload 5, 2) := by decide +kernel
theorem dX3_put_24 : decode cX3_put 24 = .ok (.invokevirtual 19, 3) := by decide +kernel
theorem dX3_put_27 : decode cX3_put 27 = .ok (.l2i, 1) := by decide +kernel
theorem dX3_put_28 : decode cX3_put 28 = .ok (.iastore, 1) := by decide +kernel
theorem dX3_put_29 : decode cX3_put 29 = .ok (.iinc 5 1, 3) := by decide +kernel
theorem dX3_put_32 : decode cX3_put 32 = .ok (.goto (-29), 3) := by decide +kernel
theorem dX3_put_35 : decode cX3_put 35 = .ok (.aload_n 0, 1) := by decide +kernel
theorem dX3_put_36 : decode cX3_put 36 = .ok (.getfield 9, 3) := by decide +kernel
theorem dX3_put_39 : decode cX3_put 39 = .ok (.iload_n 1, 1) := by decide +kernel
theorem dX3_put_40 : decode cX3_put 40 = .ok (.iconst 1, 1) := by decide +kernel
theorem dX3_put_41 : decode cX3_put 41 = .ok (.bastore, 1) := by decide +kernel
theorem dX3_put_42 : decode cX3_put 42 = .ok (.aload_n 0, 1) := by decide +kernel
theorem dX3_put_43 : decode cX3_put 43 = .ok (.iconst 1, 1) := by decide +kernel
theorem dX3_put_44 : decode cX3_put 44 = .ok (.putfield 25, 3) := by decide +kernel
theorem dX3_put_47 : decode cX3_put 47 = .ok (.return_, 1) := by decide +kernel
theorem dX3_votesOf_0 : decode cX3_votesOf 0 = .ok (.aload_n 0, 1) := by decide +kernel
theorem dX3_votesOf_1 : decode cX3_votesOf 1 = .ok (.getfield 15, 3) := by decide +kernel
theorem dX3_votesOf_4 : decode cX3_votesOf 4 = .ok (.iload_n 1, 1) := by decide +kernel
theorem dX3_votesOf_5 : decode cX3_votesOf 5 = .ok (.iconst 4, 1) := by decide +kernel
theorem dX3_votesOf_6 : decode cX3_votesOf 6 = .ok (.imul, 1) := by decide +kernel
theorem dX3_votesOf_7 : decode cX3_votesOf 7 = .ok (.iload_n 2, 1) := by decide +kernel
theorem dX3_votesOf_8 : decode cX3_votesOf 8 = .ok (.iadd, 1) := by decide +kernel
theorem dX3_votesOf_9 : decode cX3_votesOf 9 = .ok (.iaload, 1) := by decide +kernel
theorem dX3_votesOf_10 : decode cX3_votesOf 10 = .ok (.ireturn, 1) := by decide +kernel
set_option maxRecDepth 20000 in
theorem ggX3_compare_X3_votesOf : GoodIn wsX3_compare wsX3_votesOf := goodIn_r _ [9, 10, 16, 17, 18, 19, 20, 21] (by decide +kernel) (by decide +kernel)
set_option maxRecDepth 20000 in
theorem gX3_compare_X3_votesOf : GoodIn wsX3_compare (wsV RX3 44 RX3 yX3_votesOf wsX3_votesOf) := goodIn_app (goodIn_of _ (by decide +kernel)) ggX3_compare_X3_votesOf
set_option maxRecDepth 20000 in
theorem ggX3_compare_X5_numberOf : GoodIn wsX3_compare wsX5_numberOf := goodIn_r _ [14, 15, 22, 23, 24, 25, 26, 27, 28, 29, 30] (by decide +kernel) (by decide +kernel)
set_option maxRecDepth 20000 in
theorem gX3_compare_X5_numberOf_n48 : GoodIn wsX3_compare (wsX5_numberOf) := ggX3_compare_X5_numberOf
theorem dX3_compare_0 : decode cX3_compare 0 = .ok (.aload_n 0, 1) := by decide +kernel
theorem dX3_compare_1 : decode cX3_compare 1 = .ok (.iconst 0, 1) := by decide +kernel
theorem dX3_compare_2 : decode cX3_compare 2 = .ok (.putfield 29, 3) := by decide +kernel
theorem dX3_compare_5 : decode cX3_compare 5 = .ok (.aload_n 0, 1) := by decide +kernel
theorem dX3_compare_6 : decode cX3_compare 6 = .ok (.iconst 0, 1) := by decide +kernel
theorem dX3_compare_7 : decode cX3_compare 7 = .ok (.putfield 33, 3) := by decide +kernel
theorem dX3_compare_10 : decode cX3_compare 10 = .ok (.aload_n 0, 1) := by decide +kernel
theorem dX3_compare_11 : decode cX3_compare 11 = .ok (.iconst 0, 1) := by decide +kernel
theorem dX3_compare_12 : decode cX3_compare 12 = .ok (.putfield 36, 3) := by decide +kernel
theorem dX3_compare_15 : decode cX3_compare 15 = .ok (.iconst 0, 1) := by decide +kernel
theorem dX3_compare_16 : decode cX3_compare 16 = .ok (.istore 4, 2) := by decide +kernel
theorem dX3_compare_18 : decode cX3_compare 18 = .ok (.iload 4, 2) := by decide +kernel
theorem dX3_compare_20 : decode cX3_compare 20 = .ok (.iload_n 2, 1) := by decide +kernel
theorem dX3_compare_21 : decode cX3_compare 21 = .ok (.if_icmp .ge 100, 3) := by decide +kernel
theorem dX3_compare_24 : decode cX3_compare 24 = .ok (.aload_n 1, 1) := by decide +kernel
theorem dX3_compare_25 : decode cX3_compare 25 = .ok (.getfield 39, 3) := by decide +kernel
theorem dX3_compare_28 : decode cX3_compare 28 = .ok (.iload 4, 2) := by decide +kernel
theorem dX3_compare_30 : decode cX3_compare 30 = .ok (.iaload, 1) := by decide +kernel
theorem dX3_compare_31 : decode cX3_compare 31 = .ok (.istore 5, 2) := by decide +kernel
theorem dX3_compare_33 : decode cX3_compare 33 = .ok (.aload_n 0, 1) := by decide +kernel
theorem dX3_compare_34 : decode cX3_compare 34 = .ok (.getfield 9, 3) := by decide +kernel
theorem dX3_compare_37 : decode cX3_compare 37 = .ok (.iload 4, 2) := by decide +kernel
theorem dX3_compare_39 : decode cX3_compare 39 = .ok (.baload, 1) := by decide +kernel
theorem dX3_compare_40 : decode cX3_compare 40 = .ok (.ifCond .eq 75, 3) := by decide +kernel
theorem dX3_compare_43 : decode cX3_compare 43 = .ok (.iload 5, 2) := by decide +kernel
theorem dX3_compare_45 : decode cX3_compare 45 = .ok (.iconst (-1), 1) := by decide +kernel
theorem dX3_compare_46 : decode cX3_compare 46 = .ok (.if_icmp .eq 69, 3) := by decide +kernel
theorem dX3_compare_49 : decode cX3_compare 49 = .ok (.aload_n 0, 1) := by decide +kernel
theorem dX3_compare_50 : decode cX3_compare 50 = .ok (.iload 4, 2) := by decide +kernel
theorem dX3_compare_52 : decode cX3_compare 52 = .ok (.iload_n 3, 1) := by decide +kernel
theorem dX3_compare_53 : decode cX3_compare 53 = .ok (.invokevirtual 44, 3) := by decide +kernel
theorem dX3_compare_56 : decode cX3_compare 56 = .ok (.aload_n 1, 1) := by decide +kernel
theorem dX3_compare_57 : decode cX3_compare 57 = .ok (.iload 5, 2) := by decide +kernel
theorem dX3_compare_59 : decode cX3_compare 59 = .ok (.iload_n 3, 1) := by decide +kernel
theorem dX3_compare_60 : decode cX3_compare 60 = .ok (.invokevirtual 48, 3) := by decide +kernel
theorem dX3_compare_63 : decode cX3_compare 63 = .ok (.isub, 1) := by decide +kernel
theorem dX3_compare_64 : decode cX3_compare 64 = .ok (.istore 6, 2) := by decide +kernel
theorem dX3_compare_66 : decode cX3_compare 66 = .ok (.aload_n 0, 1) := by decide +kernel
theorem dX3_compare_67 : decode cX3_compare 67 = .ok (.dup, 1) := by decide +kernel
theorem dX3_compare_68 : decode cX3_compare 68 = .ok (.getfield 29, 3) := by decide +kernel
theorem dX3_compare_71 : decode cX3_compare 71 = .ok (.iload 6, 2) := by decide +kernel
theorem dX3_compare_73 : decode cX3_compare 73 = .ok (.ifCond .eq 7, 3) := by decide +kernel
theorem dX3_compare_76 : decode cX3_compare 76 = .ok (.iconst 1, 1) := by decide +kernel
theorem dX3_compare_77 : decode cX3_compare 77 = .ok (.goto 4, 3) := by decide +kernel
theorem dX3_compare_80 : decode cX3_compare 80 = .ok (.iconst 0, 1) := by decide +kernel
theorem dX3_compare_81 : decode cX3_compare 81 = .ok (.iadd, 1) := by decide +kernel
theorem dX3_compare_82 : decode cX3_compare 82 = .ok (.putfield 29, 3) := by decide +kernel
theorem dX3_compare_85 : decode cX3_compare 85 = .ok (.aload_n 0, 1) := by decide +kernel
theorem dX3_compare_86 : decode cX3_compare 86 = .ok (.dup, 1) := by decide +kernel
theorem dX3_compare_87 : decode cX3_compare 87 = .ok (.getfield 33, 3) := by decide +kernel
theorem dX3_compare_90 : decode cX3_compare 90 = .ok (.iload 6, 2) := by decide +kernel
theorem dX3_compare_92 : decode cX3_compare 92 = .ok (.ifCond .le 7, 3) := by decide +kernel
theorem dX3_compare_95 : decode cX3_compare 95 = .ok (.iconst 1, 1) := by decide +kernel
theorem dX3_compare_96 : decode cX3_compare 96 = .ok (.goto 4, 3) := by decide +kernel
theorem dX3_compare_99 : decode cX3_compare 99 = .ok (.iconst 0, 1) := by decide +kernel
theorem dX3_compare_100 : decode cX3_compare 100 = .ok (.iadd, 1) := by decide +kernel
theorem dX3_compare_101 : decode cX3_compare 101 = .ok (.putfield 33, 3) := by decide +kernel
theorem dX3_compare_104 : decode cX3_compare 104 = .ok (.aload_n 0, 1) := by decide +kernel
theorem dX3_compare_105 : decode cX3_compare 105 = .ok (.dup, 1) := by decide +kernel
theorem dX3_compare_106 : decode cX3_compare 106 = .ok (.getfield 36, 3) := by decide +kernel
theorem dX3_compare_109 : decode cX3_compare 109 = .ok (.iload 6, 2) := by decide +kernel
theorem dX3_compare_111 : decode cX3_compare 111 = .ok (.iadd, 1) := by decide +kernel
theorem dX3_compare_112 : decode cX3_compare 112 = .ok (.putfield 36, 3) := by decide +kernel
theorem dX3_compare_115 : decode cX3_compare 115 = .ok (.iinc 4 1, 3) := by decide +kernel
theorem dX3_compare_118 : decode cX3_compare 118 = .ok (.goto (-100), 3) := by decide +kernel
theorem dX3_compare_121 : decode cX3_compare 121 = .ok (.return_, 1) := by decide +kernel
theorem dX4_init_0 : decode cX4_init 0 = .ok (.aload_n 0, 1) := by decide +kernel
theorem dX4_init_1 : decode cX4_init 1 = .ok (.invokespecial 3, 3) := by decide +kernel
theorem dX4_init_4 : decode cX4_init 4 = .ok (.aload_n 0, 1) := by decide +kernel
theorem dX4_init_5 : decode cX4_init 5 = .ok (.bipush 40, 2) := by decide +kernel
theorem dX4_init_7 : decode cX4_init 7 = .ok (.newarray .int, 2) := by decide +kernel
theorem dX4_init_9 : decode cX4_init 9 = .ok (.putfield 9, 3) := by decide +kernel
theorem dX4_init_12 : decode cX4_init 12 = .ok (.aload_n 0, 1) := by decide +kernel
theorem dX4_init_13 : decode cX4_init 13 = .ok (.bipush 40, 2) := by decide +kernel
theorem dX4_init_15 : decode cX4_init 15 = .ok (.newarray .int, 2) := by decide +kernel
theorem dX4_init_17 : decode cX4_init 17 = .ok (.putfield 15, 3) := by decide +kernel
theorem dX4_init_20 : decode cX4_init 20 = .ok (.aload_n 0, 1) := by decide +kernel
theorem dX4_init_21 : decode cX4_init 21 = .ok (.bipush 40, 2) := by decide +kernel
theorem dX4_init_23 : decode cX4_init 23 = .ok (.newarray .boolean, 2) := by decide +kernel
theorem dX4_init_25 : decode cX4_init 25 = .ok (.putfield 18, 3) := by decide +kernel
theorem dX4_init_28 : decode cX4_init 28 = .ok (.aload_n 0, 1) := by decide +kernel
theorem dX4_init_29 : decode cX4_init 29 = .ok (.bipush 40, 2) := by decide +kernel
theorem dX4_init_31 : decode cX4_init 31 = .ok (.newarray .boolean, 2) := by decide +kernel
theorem dX4_init_33 : decode cX4_init 33 = .ok (.putfield 22, 3) := by decide +kernel
theorem dX4_init_36 : decode cX4_init 36 = .ok (.aload_n 0, 1) := by decide +kernel
theorem dX4_init_37 : decode cX4_init 37 = .ok (.iconst 4, 1) := by decide +kernel
theorem dX4_init_38 : decode cX4_init 38 = .ok (.newarray .int, 2) := by decide +kernel
theorem dX4_init_40 : decode cX4_init 40 = .ok (.putfield 25, 3) := by decide +kernel
theorem dX4_init_43 : decode cX4_init 43 = .ok (.aload_n 0, 1) := by decide +kernel
theorem dX4_init_44 : decode cX4_init 44 = .ok (.iconst 4, 1) := by decide +kernel
theorem dX4_init_45 : decode cX4_init 45 = .ok (.newarray .int, 2) := by decide +kernel
theorem dX4_init_47 : decode cX4_init 47 = .ok (.putfield 28, 3) := by decide +kernel
theorem dX4_init_50 : decode cX4_init 50 = .ok (.aload_n 0, 1) := by decide +kernel
theorem dX4_init_51 : decode cX4_init 51 = .ok (.iconst 4, 1) := by decide +kernel
theorem dX4_init_52 : decode cX4_init 52 = .ok (.newarray .int, 2) := by decide +kernel
theorem dX4_init_54 : decode cX4_init 54 = .ok (.putfield 31, 3) := by decide +kernel
theorem dX4_init_57 : decode cX4_init 57 = .ok (.return_, 1) := by decide +kernel
theorem dX4_add_0 : decode cX4_add 0 = .ok (.aload_n 0, 1) := by decide +kernel
theorem dX4_add_1 : decode cX4_add 1 = .ok (.getfield 34, 3) := by decide +kernel
theorem dX4_add_4 : decode cX4_add 4 = .ok (.istore_n 3, 1) := by decide +kernel
theorem dX4_add_5 : decode cX4_add 5 = .ok (.aload_n 0, 1) := by decide +kernel
theorem dX4_add_6 : decode cX4_add 6 = .ok (.getfield 9, 3) := by decide +kernel
theorem dX4_add_9 : decode cX4_add 9 = .ok (.iload_n 3, 1) := by decide +kernel
theorem dX4_add_10 : decode cX4_add 10 = .ok (.iload_n 1, 1) := by decide +kernel
theorem dX4_add_11 : decode cX4_add 11 = .ok (.iastore, 1) := by decide +kernel
theorem dX4_add_12 : decode cX4_add 12 = .ok (.aload_n 0, 1) := by decide +kernel
theorem dX4_add_13 : decode cX4_add 13 = .ok (.getfield 15, 3) := by decide +kernel
theorem dX4_add_16 : decode cX4_add 16 = .ok (.iload_n 3, 1) := by decide +kernel
theorem dX4_add_17 : decode cX4_add 17 = .ok (.iload_n 2, 1) := by decide +kernel
theorem dX4_add_18 : decode cX4_add 18 = .ok (.iastore, 1) := by decide +kernel
theorem dX4_add_19 : decode cX4_add 19 = .ok (.aload_n 0, 1) := by decide +kernel
theorem dX4_add_20 : decode cX4_add 20 = .ok (.getfield 25, 3) := by decide +kernel
theorem dX4_add_23 : decode cX4_add 23 = .ok (.iload_n 1, 1) := by decide +kernel
theorem dX4_add_24 : decode cX4_add 24 = .ok (.dup2, 1) := by decide +kernel
theorem dX4_add_25 : decode cX4_add 25 = .ok (.iaload, 1) := by decide +kernel
theorem dX4_add_26 : decode cX4_add 26 = .ok (.iconst 1, 1) := by decide +kernel
theorem dX4_add_27 : decode cX4_add 27 = .ok (.iadd, 1) := by decide +kernel
theorem dX4_add_28 : decode cX4_add 28 = .ok (.iastore, 1) := by decide +kernel
theorem dX4_add_29 : decode cX4_add 29 = .ok (.aload_n 0, 1) := by decide +kernel
theorem dX4_add_30 : decode cX4_add 30 = .ok (.dup, 1) := by decide +kernel
theorem dX4_add_31 : decode cX4_add 31 = .ok (.getfield 34, 3) := by decide +kernel
theorem dX4_add_34 : decode cX4_add 34 = .ok (.iconst 1, 1) := by decide +kernel
theorem dX4_add_35 : decode cX4_add 35 = .ok (.iadd, 1) := by decide +kernel
theorem dX4_add_36 : decode cX4_add 36 = .ok (.putfield 34, 3) := by decide +kernel
theorem dX4_add_39 : decode cX4_add 39 = .ok (.iload_n 3, 1) := by decide +kernel
theorem dX4_add_40 : decode cX4_add 40 = .ok (.ireturn, 1) := by decide +kernel
theorem dX4_hasDraw_0 : decode cX4_hasDraw 0 = .ok (.iconst 0, 1) := by decide +kernel
theorem dX4_hasDraw_1 : decode cX4_hasDraw 1 = .ok (.istore_n 1, 1) := by decide +kernel
theorem dX4_hasDraw_2 : decode cX4_hasDraw 2 = .ok (.iload_n 1, 1) := by decide +kernel
theorem dX4_hasDraw_3 : decode cX4_hasDraw 3 = .ok (.iconst 4, 1) := by decide +kernel
theorem dX4_hasDraw_4 : decode cX4_hasDraw 4 = .ok (.if_icmp .ge 20, 3) := by decide +kernel
theorem dX4_hasDraw_7 : decode cX4_hasDraw 7 = .ok (.aload_n 0, 1) := by decide +kernel
theorem dX4_hasDraw_8 : decode cX4_hasDraw 8 = .ok (.getfield 28, 3) := by decide +kernel
theorem dX4_hasDraw_11 : decode cX4_hasDraw 11 = .ok (.iload_n 1, 1) := by decide +kernel
theorem dX4_hasDraw_12 : decode cX4_hasDraw 12 = .ok (.iaload, 1) := by decide +kernel
theorem dX4_hasDraw_13 : decode cX4_hasDraw 13 = .ok (.ifCond .le 5, 3) := by decide +kernel
theorem dX4_hasDraw_16 : decode cX4_hasDraw 16 = .ok (.iconst 1, 1) := by decide +kernel
theorem dX4_hasDraw_17 : decode cX4_hasDraw 17 = .ok (.ireturn, 1) := by decide +kernel
theorem dX4_hasDraw_18 : decode cX4_hasDraw 18 = .ok (.iinc 1 1, 3) := by decide +kernel
theorem dX4_hasDraw_21 : decode cX4_hasDraw 21 = .ok (.goto (-19), 3) := by decide +kernel
theorem dX4_hasDraw_24 : decode cX4_hasDraw 24 = .ok (.iconst 0, 1) := by decide +kernel
theorem dX4_hasDraw_25 : decode cX4_hasDraw 25 = .ok (.ireturn, 1) := by decide +kernel
theorem dX4_takeLots_0 : decode cX4_takeLots 0 = .ok (.aload_n 0, 1) := by decide +kernel
theorem dX4_takeLots_1 : decode cX4_takeLots 1 = .ok (.getfield 28, 3) := by decide +kernel
theorem dX4_takeLots_4 : decode cX4_takeLots 4 = .ok (.iload_n 1, 1) := by decide +kernel
theorem dX4_takeLots_5 : decode cX4_takeLots 5 = .ok (.aload_n 0, 1) := by decide +kernel
theorem dX4_takeLots_6 : decode cX4_takeLots 6 = .ok (.getfield 25, 3) := by decide +kernel
theorem dX4_takeLots_9 : decode cX4_takeLots 9 = .ok (.iload_n 1, 1) := by decide +kernel
theorem dX4_takeLots_10 : decode cX4_takeLots 10 = .ok (.iaload, 1) := by decide +kernel
theorem dX4_takeLots_11 : decode cX4_takeLots 11 = .ok (.iastore, 1) := by decide +kernel
theorem dX4_takeLots_12 : decode cX4_takeLots 12 = .ok (.aload_n 0, 1) := by decide +kernel
theorem dX4_takeLots_13 : decode cX4_takeLots 13 = .ok (.getfield 31, 3) := by decide +kernel
theorem dX4_takeLots_16 : decode cX4_takeLots 16 = .ok (.iload_n 1, 1) := by decide +kernel
theorem dX4_takeLots_17 : decode cX4_takeLots 17 = .ok (.iload_n 2, 1) := by decide +kernel
theorem dX4_takeLots_18 : decode cX4_takeLots 18 = .ok (.iastore, 1) := by decide +kernel
theorem dX4_takeLots_19 : decode cX4_takeLots 19 = .ok (.iload_n 3, 1) := by decide +kernel
theorem dX4_takeLots_20 : decode cX4_takeLots 20 = .ok (.i2l, 1) := by decide +kernel
theorem dX4_takeLots_21 : decode cX4_takeLots 21 = .ok (.lstore 4, 2) := by decide +kernel
theorem dX4_takeLots_23 : decode cX4_takeLots 23 = .ok (.aload_n 0, 1) := by decide +kernel
theorem dX4_takeLots_24 : decode cX4_takeLots 24 = .ok (.getfield 25, 3) := by decide +kernel
theorem dX4_takeLots_27 : decode cX4_takeLots 27 = .ok (.iload_n 1, 1) := by decide +kernel
theorem dX4_takeLots_28 : decode cX4_takeLots 28 = .ok (.iaload, 1) := by decide +kernel
theorem dX4_takeLots_29 : decode cX4_takeLots 29 = .ok (.istore 6, 2) := by decide +kernel
theorem dX4_takeLots_31 : decode cX4_takeLots 31 = .ok (.iload_n 2, 1) := by decide +kernel
theorem dX4_takeLots_32 : decode cX4_takeLots 32 = .ok (.istore 7, 2) := by decide +kernel
theorem dX4_takeLots_34 : decode cX4_takeLots 34 = .ok (.iconst 0, 1) := by decide +kernel
theorem dX4_takeLots_35 : decode cX4_takeLots 35 = .ok (.istore 8, 2) := by decide +kernel
theorem dX4_takeLots_37 : decode cX4_takeLots 37 = .ok (.iload 8, 2) := by decide +kernel
theorem dX4_takeLots_39 : decode cX4_takeLots 39 = .ok (.aload_n 0, 1) := by decide +kernel
theorem dX4_takeLots_40 : decode cX4_takeLots 40 = .ok (.getfield 34, 3) := by decide +kernel
theorem dX4_takeLots_43 : decode cX4_takeLots 43 = .ok (.if_icmp .ge 105, 3) := by decide +kernel
theorem dX4_takeLots_46 : decode cX4_takeLots 46 = .ok (.aload_n 0, 1) := by decide +kernel
theorem dX4_takeLots_47 : decode cX4_takeLots 47 = .ok (.getfield 9, 3) := by decide +kernel
theorem dX4_takeLots_50 : decode cX4_takeLots 50 = .ok (.iload 8, 2) := by decide +kernel
theorem dX4_takeLots_52 : decode cX4_takeLots 52 = .ok (.iaload, 1) := by decide +kernel
theorem dX4_takeLots_53 : decode cX4_takeLots 53 = .ok (.iload_n 1, 1) := by decide +kernel
theorem dX4_takeLots_54 : decode cX4_takeLots 54 = .ok (.if_icmp .ne 88, 3) := by decide +kernel
theorem dX4_takeLots_57 : decode cX4_takeLots 57 = .ok (.iload 6, 2) := by decide +kernel
theorem dX4_takeLots_59 : decode cX4_takeLots 59 = .ok (.ifCond .le 83, 3) := by decide +kernel
theorem dX4_takeLots_62 : decode cX4_takeLots 62 = .ok (.lload 4, 2) := by decide +kernel
theorem dX4_takeLots_64 : decode cX4_takeLots 64 = .ok (.ldc2_w 38, 3) := by decide +kernel
theorem dX4_takeLots_67 : decode cX4_takeLots 67 = .ok (.lmul, 1) := by decide +kernel
theorem dX4_takeLots_68 : decode cX4_takeLots 68 = .ok (.ldc2_w 40, 3) := by decide +kernel
theorem dX4_takeLots_71 : decode cX4_takeLots 71 = .ok (.ladd, 1) := by decide +kernel
theorem dX4_takeLots_72 : decode cX4_takeLots 72 = .ok (.ldc2_w 42, 3) := by decide +kernel
theorem dX4_takeLots_75 : decode cX4_takeLots 75 = .ok (.land, 1) := by decide +kernel
theorem dX4_takeLots_76 : decode cX4_takeLots 76 = .ok (.lstore 4, 2) := by decide +kernel
theorem dX4_takeLots_78 : decode cX4_takeLots 78 = .ok (.lload 4, 2) := by decide +kernel
theorem dX4_takeLots_80 : decode cX4_takeLots 80 = .ok (.ldc2_w 44, 3) := by decide +kernel
theorem dX4_takeLots_83 : decode cX4_takeLots 83 = .ok (.ldiv, 1) := by decide +kernel
theorem dX4_takeLots_84 : decode cX4_takeLots 84 = .ok (.lstore 9, 2) := by decide +kernel
theorem dX4_takeLots_86 : decode cX4_takeLots 86 = .ok (.aload_n 0, 1) := by decide +kernel
theorem dX4_takeLots_87 : decode cX4_takeLots 87 = .ok (.getfield 18, 3) := by decide +kernel
theorem dX4_takeLots_90 : decode cX4_takeLots 90 = .ok (.iload 8, 2) := by decide +kernel
theorem dX4_takeLots_92 : decode cX4_takeLots 92 = .ok (.lload 9, 2) := by decide +kernel
theorem dX4_takeLots_94 : decode cX4_takeLots 94 = .ok (.iload 6, 2) := by decide +kernel
theorem dX4_takeLots_96 : decode cX4_takeLots 96 = .ok (.i2l, 1) := by decide +kernel
theorem dX4_takeLots_97 : decode cX4_takeLots 97 = .ok (.lrem, 1) := by decide +kernel
theorem dX4_takeLots_98 : decode cX4_takeLots 98 = .ok (.iload 7, 2) := by decide +kernel
theorem dX4_takeLots_100 : decode cX4_takeLots 100 = .ok (.i2l, 1) := by decide +kernel
theorem dX4_takeLots_101 : decode cX4_takeLots 101 = .ok (.lcmp, 1) := by decide +kernel
theorem dX4_takeLots_102 : decode cX4_takeLots 102 = .ok (.ifCond .ge 7, 3) := by decide +kernel
theorem dX4_takeLots_105 : decode cX4_takeLots 105 = .ok (.iconst 1, 1) := by decide +kernel
theorem dX4_takeLots_106 : decode cX4_takeLots 106 = .ok (.goto 4, 3) := by decide +kernel
theorem dX4_takeLots_109 : decode cX4_takeLots 109 = .ok (.iconst 0, 1) := by decide +kernel
theorem dX4_takeLots_110 : decode cX4_takeLots 110 = .ok (.bastore, 1) := by decide +kernel
theorem dX4_takeLots_111 : decode cX4_takeLots 111 = .ok (.aload_n 0, 1) := by decide +kernel
theorem dX4_takeLots_112 : decode cX4_takeLots 112 = .ok (.getfield 22, 3) := by decide +kernel
theorem dX4_takeLots_115 : decode cX4_takeLots 115 = .ok (.iload 8, 2) := by decide +kernel
theorem dX4_takeLots_117 : decode cX4_takeLots 117 = .ok (.iconst 1, 1) := by decide +kernel
theorem dX4_takeLots_118 : decode cX4_takeLots 118 = .ok (.bastore, 1) := by decide +kernel
theorem dX4_takeLots_119 : decode cX4_takeLots 119 = .ok (.iload 7, 2) := by decide +kernel
theorem dX4_takeLots_121 : decode cX4_takeLots 121 = .ok (.aload_n 0, 1) := by decide +kernel
theorem dX4_takeLots_122 : decode cX4_takeLots 122 = .ok (.getfield 18, 3) := by decide +kernel
theorem dX4_takeLots_125 : decode cX4_takeLots 125 = .ok (.iload 8, 2) := by decide +kernel
theorem dX4_takeLots_127 : decode cX4_takeLots 127 = .ok (.baload, 1) := by decide +kernel
theorem dX4_takeLots_128 : decode cX4_takeLots 128 = .ok (.ifCond .eq 7, 3) := by decide +kernel
theorem dX4_takeLots_131 : decode cX4_takeLots 131 = .ok (.iconst 1, 1) := by decide +kernel
theorem dX4_takeLots_132 : decode cX4_takeLots 132 = .ok (.goto 4, 3) := by decide +kernel
theorem dX4_takeLots_135 : decode cX4_takeLots 135 = .ok (.iconst 0, 1) := by decide +kernel
theorem dX4_takeLots_136 : decode cX4_takeLots 136 = .ok (.isub, 1) := by decide +kernel
theorem dX4_takeLots_137 : decode cX4_takeLots 137 = .ok (.istore 7, 2) := by decide +kernel
theorem dX4_takeLots_139 : decode cX4_takeLots 139 = .ok (.iinc 6 (-1), 3) := by decide +kernel
theorem dX4_takeLots_142 : decode cX4_takeLots 142 = .ok (.iinc 8 1, 3) := by decide +kernel
theorem dX4_takeLots_145 : decode cX4_takeLots 145 = .ok (.goto (-108), 3) := by decide +kernel
theorem dX4_takeLots_148 : decode cX4_takeLots 148 = .ok (.return_, 1) := by decide +kernel
theorem dX5_init_0 : decode cX5_init 0 = .ok (.aload_n 0, 1) := by decide +kernel
theorem dX5_init_1 : decode cX5_init 1 = .ok (.invokespecial 3, 3) := by decide +kernel
theorem dX5_init_4 : decode cX5_init 4 = .ok (.aload_n 0, 1) := by decide +kernel
theorem dX5_init_5 : decode cX5_init 5 = .ok (.bipush 120, 2) := by decide +kernel
theorem dX5_init_7 : decode cX5_init 7 = .ok (.newarray .int, 2) := by decide +kernel
theorem dX5_init_9 : decode cX5_init 9 = .ok (.putfield 9, 3) := by decide +kernel
theorem dX5_init_12 : decode cX5_init 12 = .ok (.aload_n 0, 1) := by decide +kernel
theorem dX5_init_13 : decode cX5_init 13 = .ok (.bipush 120, 2) := by decide +kernel
theorem dX5_init_15 : decode cX5_init 15 = .ok (.newarray .int, 2) := by decide +kernel
theorem dX5_init_17 : decode cX5_init 17 = .ok (.putfield 15, 3) := by decide +kernel
theorem dX5_init_20 : decode cX5_init 20 = .ok (.aload_n 0, 1) := by decide +kernel
theorem dX5_init_21 : decode cX5_init 21 = .ok (.bipush 120, 2) := by decide +kernel
theorem dX5_init_23 : decode cX5_init 23 = .ok (.newarray .boolean, 2) := by decide +kernel
theorem dX5_init_25 : decode cX5_init 25 = .ok (.putfield 18, 3) := by decide +kernel
theorem dX5_init_28 : decode cX5_init 28 = .ok (.aload_n 0, 1) := by decide +kernel
theorem dX5_init_29 : decode cX5_init 29 = .ok (.bipush 120, 2) := by decide +kernel
theorem dX5_init_31 : decode cX5_init 31 = .ok (.newarray .int, 2) := by decide +kernel
theorem dX5_init_33 : decode cX5_init 33 = .ok (.putfield 22, 3) := by decide +kernel
theorem dX5_init_36 : decode cX5_init 36 = .ok (.aload_n 0, 1) := by decide +kernel
theorem dX5_init_37 : decode cX5_init 37 = .ok (.bipush 120, 2) := by decide +kernel
theorem dX5_init_39 : decode cX5_init 39 = .ok (.newarray .int, 2) := by decide +kernel
theorem dX5_init_41 : decode cX5_init 41 = .ok (.putfield 25, 3) := by decide +kernel
theorem dX5_init_44 : decode cX5_init 44 = .ok (.aload_n 0, 1) := by decide +kernel
theorem dX5_init_45 : decode cX5_init 45 = .ok (.sipush 720, 3) := by decide +kernel
theorem dX5_init_48 : decode cX5_init 48 = .ok (.newarray .int, 2) := by decide +kernel
theorem dX5_init_50 : decode cX5_init 50 = .ok (.putfield 28, 3) := by decide +kernel
theorem dX5_init_53 : decode cX5_init 53 = .ok (.aload_n 0, 1) := by decide +kernel
theorem dX5_init_54 : decode cX5_init 54 = .ok (.bipush 40, 2) := by decide +kernel
theorem dX5_init_56 : decode cX5_init 56 = .ok (.newarray .int, 2) := by decide +kernel
theorem dX5_init_58 : decode cX5_init 58 = .ok (.putfield 31, 3) := by decide +kernel
theorem dX5_init_61 : decode cX5_init 61 = .ok (.return_, 1) := by decide +kernel
set_option maxRecDepth 20000 in
theorem ggX5_add_X6_at : GoodIn wsX5_add wsX6_at := goodIn_r _ [12, 13, 28, 29, 30] (by decide +kernel) (by decide +kernel)
set_option maxRecDepth 20000 in
theorem gX5_add_X6_at_n38 : GoodIn wsX5_add (wsX6_at) := ggX5_add_X6_at
set_option maxRecDepth 20000 in
theorem ggX5_add_X5_numberOf : GoodIn wsX5_add wsX5_numberOf := goodIn_r _ [18, 2, 19, 20, 21, 22, 23, 24, 25, 26, 27] (by decide +kernel) (by decide +kernel)
set_option maxRecDepth 20000 in
theorem gX5_add_X5_numberOf : GoodIn wsX5_add (wsV RX5 44 RX5 yX5_numberOf wsX5_numberOf) := goodIn_app (goodIn_of _ (by decide +kernel)) ggX5_add_X5_numberOf
theorem dX5_add_0 : decode cX5_add 0 = .ok (.aload_n 0, 1) := by decide +kernel
theorem dX5_add_1 : decode cX5_add 1 = .ok (.getfield 34, 3) := by decide +kernel
theorem dX5_add_4 : decode cX5_add 4 = .ok (.istore 7, 2) := by decide +kernel
theorem dX5_add_6 : decode cX5_add 6 = .ok (.iconst 0, 1) := by decide +kernel
theorem dX5_add_7 : decode cX5_add 7 = .ok (.istore 8, 2) := by decide +kernel
theorem dX5_add_9 : decode cX5_add 9 = .ok (.iconst 0, 1) := by decide +kernel
theorem dX5_add_10 : decode cX5_add 10 = .ok (.istore 9, 2) := by decide +kernel
theorem dX5_add_12 : decode cX5_add 12 = .ok (.iload 9, 2) := by decide +kernel
theorem dX5_add_14 : decode cX5_add 14 = .ok (.iload 6, 2) := by decide +kernel
theorem dX5_add_16 : decode cX5_add 16 = .ok (.iconst 2, 1) := by decide +kernel
theorem dX5_add_17 : decode cX5_add 17 = .ok (.iadd, 1) := by decide +kernel
theorem dX5_add_18 : decode cX5_add 18 = .ok (.if_icmp .ge 42, 3) := by decide +kernel
theorem dX5_add_21 : decode cX5_add 21 = .ok (.aload_n 3, 1) := by decide +kernel
theorem dX5_add_22 : decode cX5_add 22 = .ok (.iload 4, 2) := by decide +kernel
theorem dX5_add_24 : decode cX5_add 24 = .ok (.iload 9, 2) := by decide +kernel
theorem dX5_add_26 : decode cX5_add 26 = .ok (.invokevirtual 38, 3) := by decide +kernel
theorem dX5_add_29 : decode cX5_add 29 = .ok (.l2i, 1) := by decide +kernel
theorem dX5_add_30 : decode cX5_add 30 = .ok (.istore 10, 2) := by decide +kernel
theorem dX5_add_32 : decode cX5_add 32 = .ok (.aload_n 0, 1) := by decide +kernel
theorem dX5_add_33 : decode cX5_add 33 = .ok (.getfield 28, 3) := by decide +kernel
theorem dX5_add_36 : decode cX5_add 36 = .ok (.iload 7, 2) := by decide +kernel
theorem dX5_add_38 : decode cX5_add 38 = .ok (.bipush 6, 2) := by decide +kernel
theorem dX5_add_40 : decode cX5_add 40 = .ok (.imul, 1) := by decide +kernel
theorem dX5_add_41 : decode cX5_add 41 = .ok (.iload 9, 2) := by decide +kernel
theorem dX5_add_43 : decode cX5_add 43 = .ok (.iadd, 1) := by decide +kernel
theorem dX5_add_44 : decode cX5_add 44 = .ok (.iload 10, 2) := by decide +kernel
theorem dX5_add_46 : decode cX5_add 46 = .ok (.iastore, 1) := by decide +kernel
theorem dX5_add_47 : decode cX5_add 47 = .ok (.iload 8, 2) := by decide +kernel
theorem dX5_add_49 : decode cX5_add 49 = .ok (.iload 10, 2) := by decide +kernel
theorem dX5_add_51 : decode cX5_add 51 = .ok (.iadd, 1) := by decide +kernel
theorem dX5_add_52 : decode cX5_add 52 = .ok (.istore 8, 2) := by decide +kernel
theorem dX5_add_54 : decode cX5_add 54 = .ok (.iinc 9 1, 3) := by decide +kernel
theorem dX5_add_57 : decode cX5_add 57 = .ok (.goto (-45), 3) := by decide +kernel
theorem dX5_add_60 : decode cX5_add 60 = .ok (.aload_n 0, 1) := by decide +kernel
theorem dX5_add_61 : decode cX5_add 61 = .ok (.iload 7, 2) := by decide +kernel
theorem dX5_add_63 : decode cX5_add 63 = .ok (.iload 6, 2) := by decide +kernel
theorem dX5_add_65 : decode cX5_add 65 = .ok (.iconst 1, 1) := by decide +kernel
theorem dX5_add_66 : decode cX5_add 66 = .ok (.iadd, 1) := by decide +kernel
theorem dX5_add_67 : decode cX5_add 67 = .ok (.invokevirtual 44, 3) := by decide +kernel
theorem dX5_add_70 : decode cX5_add 70 = .ok (.istore 9, 2) := by decide +kernel
theorem dX5_add_72 : decode cX5_add 72 = .ok (.aload_n 0, 1) := by decide +kernel
theorem dX5_add_73 : decode cX5_add 73 = .ok (.getfield 25, 3) := by decide +kernel
theorem dX5_add_76 : decode cX5_add 76 = .ok (.iload 7, 2) := by decide +kernel
theorem dX5_add_78 : decode cX5_add 78 = .ok (.iload 9, 2) := by decide +kernel
theorem dX5_add_80 : decode cX5_add 80 = .ok (.iastore, 1) := by decide +kernel
theorem dX5_add_81 : decode cX5_add 81 = .ok (.aload_n 0, 1) := by decide +kernel
theorem dX5_add_82 : decode cX5_add 82 = .ok (.getfield 22, 3) := by decide +kernel
theorem dX5_add_85 : decode cX5_add 85 = .ok (.iload 7, 2) := by decide +kernel
theorem dX5_add_87 : decode cX5_add 87 = .ok (.iload 8, 2) := by decide +kernel
theorem dX5_add_89 : decode cX5_add 89 = .ok (.iconst 2, 1) := by decide +kernel
theorem dX5_add_90 : decode cX5_add 90 = .ok (.iload 9, 2) := by decide +kernel
theorem dX5_add_92 : decode cX5_add 92 = .ok (.imul, 1) := by decide +kernel
theorem dX5_add_93 : decode cX5_add 93 = .ok (.isub, 1) := by decide +kernel
theorem dX5_add_94 : decode cX5_add 94 = .ok (.iastore, 1) := by decide +kernel
theorem dX5_add_95 : decode cX5_add 95 = .ok (.aload_n 0, 1) := by decide +kernel
theorem dX5_add_96 : decode cX5_add 96 = .ok (.getfield 18, 3) := by decide +kernel
theorem dX5_add_99 : decode cX5_add 99 = .ok (.iload 7, 2) := by decide +kernel
theorem dX5_add_101 : decode cX5_add 101 = .ok (.aload_n 0, 1) := by decide +kernel
theorem dX5_add_102 : decode cX5_add 102 = .ok (.getfield 22, 3) := by decide +kernel
theorem dX5_add_105 : decode cX5_add 105 = .ok (.iload 7, 2) := by decide +kernel
theorem dX5_add_107 : decode cX5_add 107 = .ok (.iaload, 1) := by decide +kernel
theorem dX5_add_108 : decode cX5_add 108 = .ok (.ifCond .ne 13, 3) := by decide +kernel
theorem dX5_add_111 : decode cX5_add 111 = .ok (.iload 9, 2) := by decide +kernel
theorem dX5_add_113 : decode cX5_add 113 = .ok (.iload_n 2, 1) := by decide +kernel
theorem dX5_add_114 : decode cX5_add 114 = .ok (.if_icmp .gt 7, 3) := by decide +kernel
theorem dX5_add_117 : decode cX5_add 117 = .ok (.iconst 1, 1) := by decide +kernel
theorem dX5_add_118 : decode cX5_add 118 = .ok (.goto 4, 3) := by decide +kernel
theorem dX5_add_121 : decode cX5_add 121 = .ok (.iconst 0, 1) := by decide +kernel
theorem dX5_add_122 : decode cX5_add 122 = .ok (.bastore, 1) := by decide +kernel
theorem dX5_add_123 : decode cX5_add 123 = .ok (.aload_n 0, 1) := by decide +kernel
theorem dX5_add_124 : decode cX5_add 124 = .ok (.getfield 9, 3) := by decide +kernel
theorem dX5_add_127 : decode cX5_add 127 = .ok (.iload 7, 2) := by decide +kernel
theorem dX5_add_129 : decode cX5_add 129 = .ok (.iload_n 1, 1) := by decide +kernel
theorem dX5_add_130 : decode cX5_add 130 = .ok (.iastore, 1) := by decide +kernel
theorem dX5_add_131 : decode cX5_add 131 = .ok (.aload_n 0, 1) := by decide +kernel
theorem dX5_add_132 : decode cX5_add 132 = .ok (.getfield 15, 3) := by decide +kernel
theorem dX5_add_135 : decode cX5_add 135 = .ok (.iload 7, 2) := by decide +kernel
theorem dX5_add_137 : decode cX5_add 137 = .ok (.iload 5, 2) := by decide +kernel
theorem dX5_add_139 : decode cX5_add 139 = .ok (.iastore, 1) := by decide +kernel
theorem dX5_add_140 : decode cX5_add 140 = .ok (.aload_n 0, 1) := by decide +kernel
theorem dX5_add_141 : decode cX5_add 141 = .ok (.iload 5, 2) := by decide +kernel
theorem dX5_add_143 : decode cX5_add 143 = .ok (.putfield 48, 3) := by decide +kernel
theorem dX5_add_146 : decode cX5_add 146 = .ok (.aload_n 0, 1) := by decide +kernel
theorem dX5_add_147 : decode cX5_add 147 = .ok (.dup, 1) := by decide +kernel
theorem dX5_add_148 : decode cX5_add 148 = .ok (.getfield 34, 3) := by decide +kernel
theorem dX5_add_151 : decode cX5_add 151 = .ok (.iconst 1, 1) := by decide +kernel
theorem dX5_add_152 : decode cX5_add 152 = .ok (.iadd, 1) := by decide +kernel
theorem dX5_add_153 : decode cX5_add 153 = .ok (.putfield 34, 3) := by decide +kernel
theorem dX5_add_156 : decode cX5_add 156 = .ok (.iload 7, 2) := by decide +kernel
theorem dX5_add_158 : decode cX5_add 158 = .ok (.ireturn, 1) := by decide +kernel
theorem dX5_numberOf_0 : decode cX5_numberOf 0 = .ok (.aload_n 0, 1) := by decide +kernel
theorem dX5_numberOf_1 : decode cX5_numberOf 1 = .ok (.getfield 28, 3) := by decide +kernel
theorem dX5_numberOf_4 : decode cX5_numberOf 4 = .ok (.iload_n 1, 1) := by decide +kernel
theorem dX5_numberOf_5 : decode cX5_numberOf 5 = .ok (.bipush 6, 2) := by decide +kernel
theorem dX5_numberOf_7 : decode cX5_numberOf 7 = .ok (.imul, 1) := by decide +kernel
theorem dX5_numberOf_8 : decode cX5_numberOf 8 = .ok (.iload_n 2, 1) := by decide +kernel
theorem dX5_numberOf_9 : decode cX5_numberOf 9 = .ok (.iadd, 1) := by decide +kernel
theorem dX5_numberOf_10 : decode cX5_numberOf 10 = .ok (.iaload, 1) := by decide +kernel
theorem dX5_numberOf_11 : decode cX5_numberOf 11 = .ok (.ireturn, 1) := by decide +kernel
theorem dX5_isMended_0 : decode cX5_isMended 0 = .ok (.aload_n 0, 1) := by decide +kernel
theorem dX5_isMended_1 : decode cX5_isMended 1 = .ok (.getfield 22, 3) := by decide +kernel
theorem dX5_isMended_4 : decode cX5_isMended 4 = .ok (.iload_n 1, 1) := by decide +kernel
theorem dX5_isMended_5 : decode cX5_isMended 5 = .ok (.iaload, 1) := by decide +kernel
theorem dX5_isMended_6 : decode cX5_isMended 6 = .ok (.iload_n 2, 1) := by decide +kernel
theorem dX5_isMended_7 : decode cX5_isMended 7 = .ok (.ifCond .eq 8, 3) := by decide +kernel
theorem dX5_isMended_10 : decode cX5_isMended 10 = .ok (.iload_n 3, 1) := by decide +kernel
theorem dX5_isMended_11 : decode cX5_isMended 11 = .ok (.ineg, 1) := by decide +kernel
theorem dX5_isMended_12 : decode cX5_isMended 12 = .ok (.goto 4, 3) := by decide +kernel
theorem dX5_isMended_15 : decode cX5_isMended 15 = .ok (.iload_n 3, 1) := by decide +kernel
theorem dX5_isMended_16 : decode cX5_isMended 16 = .ok (.iadd, 1) := by decide +kernel
theorem dX5_isMended_17 : decode cX5_isMended 17 = .ok (.istore 5, 2) := by decide +kernel
theorem dX5_isMended_19 : decode cX5_isMended 19 = .ok (.aload_n 0, 1) := by decide +kernel
theorem dX5_isMended_20 : decode cX5_isMended 20 = .ok (.getfield 25, 3) := by decide +kernel
theorem dX5_isMended_23 : decode cX5_isMended 23 = .ok (.iload_n 1, 1) := by decide +kernel
theorem dX5_isMended_24 : decode cX5_isMended 24 = .ok (.iaload, 1) := by decide +kernel
theorem dX5_isMended_25 : decode cX5_isMended 25 = .ok (.iload_n 2, 1) := by decide +kernel
theorem dX5_isMended_26 : decode cX5_isMended 26 = .ok (.ifCond .eq 7, 3) := by decide +kernel
theorem dX5_isMended_29 : decode cX5_isMended 29 = .ok (.iload_n 3, 1) := by decide +kernel
theorem dX5_isMended_30 : decode cX5_isMended 30 = .ok (.goto 4, 3) := by decide +kernel
theorem dX5_isMended_33 : decode cX5_isMended 33 = .ok (.iconst 0, 1) := by decide +kernel
theorem dX5_isMended_34 : decode cX5_isMended 34 = .ok (.iadd, 1) := by decide +kernel
theorem dX5_isMended_35 : decode cX5_isMended 35 = .ok (.istore 6, 2) := by decide +kernel
theorem dX5_isMended_37 : decode cX5_isMended 37 = .ok (.iload 5, 2) := by decide +kernel
theorem dX5_isMended_39 : decode cX5_isMended 39 = .ok (.ifCond .ne 14, 3) := by decide +kernel
theorem dX5_isMended_42 : decode cX5_isMended 42 = .ok (.iload 6, 2) := by decide +kernel
theorem dX5_isMended_44 : decode cX5_isMended 44 = .ok (.iload 4, 2) := by decide +kernel
theorem dX5_isMended_46 : decode cX5_isMended 46 = .ok (.if_icmp .gt 7, 3) := by decide +kernel
theorem dX5_isMended_49 : decode cX5_isMended 49 = .ok (.iconst 1, 1) := by decide +kernel
theorem dX5_isMended_50 : decode cX5_isMended 50 = .ok (.goto 4, 3) := by decide +kernel
theorem dX5_isMended_53 : decode cX5_isMended 53 = .ok (.iconst 0, 1) := by decide +kernel
theorem dX5_isMended_54 : decode cX5_isMended 54 = .ok (.ireturn, 1) := by decide +kernel
theorem dX5_isUsable_0 : decode cX5_isUsable 0 = .ok (.aload_n 0, 1) := by decide +kernel
theorem dX5_isUsable_1 : decode cX5_isUsable 1 = .ok (.getfield 18, 3) := by decide +kernel
theorem dX5_isUsable_4 : decode cX5_isUsable 4 = .ok (.iload_n 1, 1) := by decide +kernel
theorem dX5_isUsable_5 : decode cX5_isUsable 5 = .ok (.baload, 1) := by decide +kernel
theorem dX5_isUsable_6 : decode cX5_isUsable 6 = .ok (.ifCond .eq 17, 3) := by decide +kernel
theorem dX5_isUsable_9 : decode cX5_isUsable 9 = .ok (.aload_n 0, 1) := by decide +kernel
theorem dX5_isUsable_10 : decode cX5_isUsable 10 = .ok (.getfield 15, 3) := by decide +kernel
theorem dX5_isUsable_13 : decode cX5_isUsable 13 = .ok (.iload_n 1, 1) := by decide +kernel
theorem dX5_isUsable_14 : decode cX5_isUsable 14 = .ok (.iaload, 1) := by decide +kernel
theorem dX5_isUsable_15 : decode cX5_isUsable 15 = .ok (.iload_n 2, 1) := by decide +kernel
theorem dX5_isUsable_16 : decode cX5_isUsable 16 = .ok (.if_icmp .gt 7, 3) := by decide +kernel
theorem dX5_isUsable_19 : decode cX5_isUsable 19 = .ok (.iconst 1, 1) := by decide +kernel
theorem dX5_isUsable_20 : decode cX5_isUsable 20 = .ok (.goto 4, 3) := by decide +kernel
theorem dX5_isUsable_23 : decode cX5_isUsable 23 = .ok (.iconst 0, 1) := by decide +kernel
theorem dX5_isUsable_24 : decode cX5_isUsable 24 = .ok (.ireturn, 1) := by decide +kernel
set_option maxRecDepth 20000 in
theorem ggX5_findKnownOf_X5_isUsable : GoodIn wsX5_findKnownOf wsX5_isUsable := goodIn_r _ [7, 8, 9, 10, 11, 12, 13, 14, 15, 16, 17, 18] (by decide +kernel) (by decide +kernel)
set_option maxRecDepth 20000 in
theorem gX5_findKnownOf_X5_isUsable : GoodIn wsX5_findKnownOf (wsV RX5 51 RX5 yX5_isUsable wsX5_isUsable) := goodIn_app (goodIn_of _ (by decide +kernel)) ggX5_findKnownOf_X5_isUsable
theorem dX5_findKnownOf_0 : decode cX5_findKnownOf 0 = .ok (.aload_n 0, 1) := by decide +kernel
theorem dX5_findKnownOf_1 : decode cX5_findKnownOf 1 = .ok (.getfield 34, 3) := by decide +kernel
theorem dX5_findKnownOf_4 : decode cX5_findKnownOf 4 = .ok (.iconst 1, 1) := by decide +kernel
theorem dX5_findKnownOf_5 : decode cX5_findKnownOf 5 = .ok (.isub, 1) := by decide +kernel
theorem dX5_findKnownOf_6 : decode cX5_findKnownOf 6 = .ok (.istore_n 3, 1) := by decide +kernel
theorem dX5_findKnownOf_7 : decode cX5_findKnownOf 7 = .ok (.iload_n 3, 1) := by decide +kernel
theorem dX5_findKnownOf_8 : decode cX5_findKnownOf 8 = .ok (.ifCond .lt 30, 3) := by decide +kernel
theorem dX5_findKnownOf_11 : decode cX5_findKnownOf 11 = .ok (.aload_n 0, 1) := by decide +kernel
theorem dX5_findKnownOf_12 : decode cX5_findKnownOf 12 = .ok (.getfield 9, 3) := by decide +kernel
theorem dX5_findKnownOf_15 : decode cX5_findKnownOf 15 = .ok (.iload_n 3, 1) := by decide +kernel
theorem dX5_findKnownOf_16 : decode cX5_findKnownOf 16 = .ok (.iaload, 1) := by decide +kernel
theorem dX5_findKnownOf_17 : decode cX5_findKnownOf 17 = .ok (.iload_n 1, 1) := by decide +kernel
theorem dX5_findKnownOf_18 : decode cX5_findKnownOf 18 = .ok (.if_icmp .ne 14, 3) := by decide +kernel
theorem dX5_findKnownOf_21 : decode cX5_findKnownOf 21 = .ok (.aload_n 0, 1) := by decide +kernel
theorem dX5_findKnownOf_22 : decode cX5_findKnownOf 22 = .ok (.iload_n 3, 1) := by decide +kernel
theorem dX5_findKnownOf_23 : decode cX5_findKnownOf 23 = .ok (.iload_n 2, 1) := by decide +kernel
theorem dX5_findKnownOf_24 : decode cX5_findKnownOf 24 = .ok (.invokevirtual 51, 3) := by decide +kernel
theorem dX5_findKnownOf_27 : decode cX5_findKnownOf 27 = .ok (.ifCond .eq 5, 3) := by decide +kernel
theorem dX5_findKnownOf_30 : decode cX5_findKnownOf 30 = .ok (.iload_n 3, 1) := by decide +kernel
theorem dX5_findKnownOf_31 : decode cX5_findKnownOf 31 = .ok (.ireturn, 1) := by decide +kernel
theorem dX5_findKnownOf_32 : decode cX5_findKnownOf 32 = .ok (.iinc 3 (-1), 3) := by decide +kernel
theorem dX5_findKnownOf_35 : decode cX5_findKnownOf 35 = .ok (.goto (-28), 3) := by decide +kernel
theorem dX5_findKnownOf_38 : decode cX5_findKnownOf 38 = .ok (.iconst (-1), 1) := by decide +kernel
theorem dX5_findKnownOf_39 : decode cX5_findKnownOf 39 = .ok (.ireturn, 1) := by decide +kernel
set_option maxRecDepth 20000 in
theorem ggX5_findKnown_X5_isUsable : GoodIn wsX5_findKnown wsX5_isUsable := goodIn_r _ [8, 9, 10, 11, 12, 13, 14, 15, 16, 17, 18, 19] (by decide +kernel) (by decide +kernel)
set_option maxRecDepth 20000 in
theorem gX5_findKnown_X5_isUsable : GoodIn wsX5_findKnown (wsV RX5 51 RX5 yX5_isUsable wsX5_isUsable) := goodIn_app (goodIn_of _ (by decide +kernel)) ggX5_findKnown_X5_isUsable
theorem dX5_findKnown_0 : decode cX5_findKnown 0 = .ok (.iconst 0, 1) := by decide +kernel
theorem dX5_findKnown_1 : decode cX5_findKnown 1 = .ok (.istore_n 2, 1) := by decide +kernel
theorem dX5_findKnown_2 : decode cX5_findKnown 2 = .ok (.iload_n 2, 1) := by decide +kernel
theorem dX5_findKnown_3 : decode cX5_findKnown 3 = .ok (.bipush 40, 2) := by decide +kernel
theorem dX5_findKnown_5 : decode cX5_findKnown 5 = .ok (.if_icmp .ge 16, 3) := by decide +kernel
theorem dX5_findKnown_8 : decode cX5_findKnown 8 = .ok (.aload_n 0, 1) := by decide +kernel
theorem dX5_findKnown_9 : decode cX5_findKnown 9 = .ok (.getfield 31, 3) := by decide +kernel
theorem dX5_findKnown_12 : decode cX5_findKnown 12 = .ok (.iload_n 2, 1) := by decide +kernel
theorem dX5_findKnown_13 : decode cX5_findKnown 13 = .ok (.iconst (-1), 1) := by decide +kernel
theorem dX5_findKnown_14 : decode cX5_findKnown 14 = .ok (.iastore, 1) := by decide +kernel
theorem dX5_findKnown_15 : decode cX5_findKnown 15 = .ok (.iinc 2 1, 3) := by decide +kernel
theorem dX5_findKnown_18 : decode cX5_findKnown 18 = .ok (.goto (-16), 3) := by decide +kernel
theorem dX5_findKnown_21 : decode cX5_findKnown 21 = .ok (.iconst 0, 1) := by decide +kernel
theorem dX5_findKnown_22 : decode cX5_findKnown 22 = .ok (.istore_n 2, 1) := by decide +kernel
theorem dX5_findKnown_23 : decode cX5_findKnown 23 = .ok (.iload_n 2, 1) := by decide +kernel
theorem dX5_findKnown_24 : decode cX5_findKnown 24 = .ok (.aload_n 0, 1) := by decide +kernel
theorem dX5_findKnown_25 : decode cX5_findKnown 25 = .ok (.getfield 34, 3) := by decide +kernel
theorem dX5_findKnown_28 : decode cX5_findKnown 28 = .ok (.if_icmp .ge 30, 3) := by decide +kernel
theorem dX5_findKnown_31 : decode cX5_findKnown 31 = .ok (.aload_n 0, 1) := by decide +kernel
theorem dX5_findKnown_32 : decode cX5_findKnown 32 = .ok (.iload_n 2, 1) := by decide +kernel
theorem dX5_findKnown_33 : decode cX5_findKnown 33 = .ok (.iload_n 1, 1) := by decide +kernel
theorem dX5_findKnown_34 : decode cX5_findKnown 34 = .ok (.invokevirtual 51, 3) := by decide +kernel
theorem dX5_findKnown_37 : decode cX5_findKnown 37 = .ok (.ifCond .eq 15, 3) := by decide +kernel
theorem dX5_findKnown_40 : decode cX5_findKnown 40 = .ok (.aload_n 0, 1) := by decide +kernel
theorem dX5_findKnown_41 : decode cX5_findKnown 41 = .ok (.getfield 31, 3) := by decide +kernel
theorem dX5_findKnown_44 : decode cX5_findKnown 44 = .ok (.aload_n 0, 1) := by decide +kernel
theorem dX5_findKnown_45 : decode cX5_findKnown 45 = .ok (.getfield 9, 3) := by decide +kernel
theorem dX5_findKnown_48 : decode cX5_findKnown 48 = .ok (.iload_n 2, 1) := by decide +kernel
theorem dX5_findKnown_49 : decode cX5_findKnown 49 = .ok (.iaload, 1) := by decide +kernel
theorem dX5_findKnown_50 : decode cX5_findKnown 50 = .ok (.iload_n 2, 1) := by decide +kernel
theorem dX5_findKnown_51 : decode cX5_findKnown 51 = .ok (.iastore, 1) := by decide +kernel
theorem dX5_findKnown_52 : decode cX5_findKnown 52 = .ok (.iinc 2 1, 3) := by decide +kernel
theorem dX5_findKnown_55 : decode cX5_findKnown 55 = .ok (.goto (-32), 3) := by decide +kernel
theorem dX5_findKnown_58 : decode cX5_findKnown 58 = .ok (.return_, 1) := by decide +kernel
theorem dX6_init_0 : decode cX6_init 0 = .ok (.aload_n 0, 1) := by decide +kernel
theorem dX6_init_1 : decode cX6_init 1 = .ok (.invokespecial 3, 3) := by decide +kernel
theorem dX6_init_4 : decode cX6_init 4 = .ok (.aload_n 0, 1) := by decide +kernel
theorem dX6_init_5 : decode cX6_init 5 = .ok (.iconst 4, 1) := by decide +kernel
theorem dX6_init_6 : decode cX6_init 6 = .ok (.newarray .int, 2) := by decide +kernel
theorem dX6_init_8 : decode cX6_init 8 = .ok (.putfield 9, 3) := by decide +kernel
theorem dX6_init_11 : decode cX6_init 11 = .ok (.aload_n 0, 1) := by decide +kernel
theorem dX6_init_12 : decode cX6_init 12 = .ok (.iconst 4, 1) := by decide +kernel
theorem dX6_init_13 : decode cX6_init 13 = .ok (.newarray .int, 2) := by decide +kernel
theorem dX6_init_15 : decode cX6_init 15 = .ok (.putfield 15, 3) := by decide +kernel
theorem dX6_init_18 : decode cX6_init 18 = .ok (.aload_n 0, 1) := by decide +kernel
theorem dX6_init_19 : decode cX6_init 19 = .ok (.bipush 80, 2) := by decide +kernel
theorem dX6_init_21 : decode cX6_init 21 = .ok (.newarray .long, 2) := by decide +kernel
theorem dX6_init_23 : decode cX6_init 23 = .ok (.putfield 18, 3) := by decide +kernel
theorem dX6_init_26 : decode cX6_init 26 = .ok (.iconst 0, 1) := by decide +kernel
theorem dX6_init_27 : decode cX6_init 27 = .ok (.istore_n 1, 1) := by decide +kernel
theorem dX6_init_28 : decode cX6_init 28 = .ok (.iload_n 1, 1) := by decide +kernel
theorem dX6_init_29 : decode cX6_init 29 = .ok (.iconst 4, 1) := by decide +kernel
theorem dX6_init_30 : decode cX6_init 30 = .ok (.if_icmp .ge 16, 3) := by decide +kernel
theorem dX6_init_33 : decode cX6_init 33 = .ok (.aload_n 0, 1) := by decide +kernel
theorem dX6_init_34 : decode cX6_init 34 = .ok (.getfield 9, 3) := by decide +kernel
theorem dX6_init_37 : decode cX6_init 37 = .ok (.iload_n 1, 1) := by decide +kernel
theorem dX6_init_38 : decode cX6_init 38 = .ok (.iconst (-1), 1) := by decide +kernel
theorem dX6_init_39 : decode cX6_init 39 = .ok (.iastore, 1) := by decide +kernel
theorem dX6_init_40 : decode cX6_init 40 = .ok (.iinc 1 1, 3) := by decide +kernel
theorem dX6_init_43 : decode cX6_init 43 = .ok (.goto (-15), 3) := by decide +kernel
theorem dX6_init_46 : decode cX6_init 46 = .ok (.return_, 1) := by decide +kernel
theorem dX6_lay_0 : decode cX6_lay 0 = .ok (.aload_n 0, 1) := by decide +kernel
theorem dX6_lay_1 : decode cX6_lay 1 = .ok (.getfield 9, 3) := by decide +kernel
theorem dX6_lay_4 : decode cX6_lay 4 = .ok (.iload_n 1, 1) := by decide +kernel
theorem dX6_lay_5 : decode cX6_lay 5 = .ok (.iload_n 2, 1) := by decide +kernel
theorem dX6_lay_6 : decode cX6_lay 6 = .ok (.iastore, 1) := by decide +kernel
theorem dX6_lay_7 : decode cX6_lay 7 = .ok (.aload_n 0, 1) := by decide +kernel
theorem dX6_lay_8 : decode cX6_lay 8 = .ok (.getfield 15, 3) := by decide +kernel
theorem dX6_lay_11 : decode cX6_lay 11 = .ok (.iload_n 1, 1) := by decide +kernel
theorem dX6_lay_12 : decode cX6_lay 12 = .ok (.iload_n 3, 1) := by decide +kernel
theorem dX6_lay_13 : decode cX6_lay 13 = .ok (.iastore, 1) := by decide +kernel
theorem dX6_lay_14 : decode cX6_lay 14 = .ok (.iload_n 1, 1) := by decide +kernel
theorem dX6_lay_15 : decode cX6_lay 15 = .ok (.bipush 20, 2) := by decide +kernel
theorem dX6_lay_17 : decode cX6_lay 17 = .ok (.imul, 1) := by decide +kernel
theorem dX6_lay_18 : decode cX6_lay 18 = .ok (.istore 4, 2) := by decide +kernel
theorem dX6_lay_20 : decode cX6_lay 20 = .ok (.iconst 0, 1) := by decide +kernel
theorem dX6_lay_21 : decode cX6_lay 21 = .ok (.istore 5, 2) := by decide +kernel
theorem dX6_lay_23 : decode cX6_lay 23 = .ok (.iload 5, 2) := by decide +kernel
theorem dX6_lay_25 : decode cX6_lay 25 = .ok (.bipush 20, 2) := by decide +kernel
theorem dX6_lay_27 : decode cX6_lay 27 = .ok (.if_icmp .ge 20, 3) := by decide +kernel
theorem dX6_lay_30 : decode cX6_lay 30 = .ok (.aload_n 0, 1) := by decide +kernel
theorem dX6_lay_31 : decode cX6_lay 31 = .ok (.getfield 18, 3) := by decide +kernel
theorem dX6_lay_34 : decode cX6_lay 34 = .ok (.iload 4, 2) := by decide +kernel
theorem dX6_lay_36 : decode cX6_lay 36 = .ok (.iload 5, 2) := by decide +kernel
theorem dX6_lay_38 : decode cX6_lay 38 = .ok (.iadd, 1) := by decide +kernel
theorem dX6_lay_39 : decode cX6_lay 39 = .ok (.lconst 0, 1) := by decide +kernel
theorem dX6_lay_40 : decode cX6_lay 40 = .ok (.lastore, 1) := by decide +kernel
theorem dX6_lay_41 : decode cX6_lay 41 = .ok (.iinc 5 1, 3) := by decide +kernel
theorem dX6_lay_44 : decode cX6_lay 44 = .ok (.goto (-21), 3) := by decide +kernel
theorem dX6_lay_47 : decode cX6_lay 47 = .ok (.return_, 1) := by decide +kernel
theorem dX6_isMissing_0 : decode cX6_isMissing 0 = .ok (.aload_n 0, 1) := by decide +kernel
theorem dX6_isMissing_1 : decode cX6_isMissing 1 = .ok (.getfield 9, 3) := by decide +kernel
theorem dX6_isMissing_4 : decode cX6_isMissing 4 = .ok (.iload_n 1, 1) := by decide +kernel
theorem dX6_isMissing_5 : decode cX6_isMissing 5 = .ok (.iaload, 1) := by decide +kernel
theorem dX6_isMissing_6 : decode cX6_isMissing 6 = .ok (.iconst (-1), 1) := by decide +kernel
theorem dX6_isMissing_7 : decode cX6_isMissing 7 = .ok (.if_icmp .ne 7, 3) := by decide +kernel
theorem dX6_isMissing_10 : decode cX6_isMissing 10 = .ok (.iconst 1, 1) := by decide +kernel
theorem dX6_isMissing_11 : decode cX6_isMissing 11 = .ok (.goto 4, 3) := by decide +kernel
theorem dX6_isMissing_14 : decode cX6_isMissing 14 = .ok (.iconst 0, 1) := by decide +kernel
theorem dX6_isMissing_15 : decode cX6_isMissing 15 = .ok (.ireturn, 1) := by decide +kernel
theorem dX6_areAlike_0 : decode cX6_areAlike 0 = .ok (.aload_n 0, 1) := by decide +kernel
theorem dX6_areAlike_1 : decode cX6_areAlike 1 = .ok (.getfield 9, 3) := by decide +kernel
theorem dX6_areAlike_4 : decode cX6_areAlike 4 = .ok (.iload_n 1, 1) := by decide +kernel
theorem dX6_areAlike_5 : decode cX6_areAlike 5 = .ok (.iaload, 1) := by decide +kernel
theorem dX6_areAlike_6 : decode cX6_areAlike 6 = .ok (.aload_n 0, 1) := by decide +kernel
theorem dX6_areAlike_7 : decode cX6_areAlike 7 = .ok (.getfield 9, 3) := by decide +kernel
theorem dX6_areAlike_10 : decode cX6_areAlike 10 = .ok (.iload_n 2, 1) := by decide +kernel
theorem dX6_areAlike_11 : decode cX6_areAlike 11 = .ok (.iaload, 1) := by decide +kernel
theorem dX6_areAlike_12 : decode cX6_areAlike 12 = .ok (.if_icmp .ne 7, 3) := by decide +kernel
theorem dX6_areAlike_15 : decode cX6_areAlike 15 = .ok (.iconst 1, 1) := by decide +kernel
theorem dX6_areAlike_16 : decode cX6_areAlike 16 = .ok (.goto 4, 3) := by decide +kernel
theorem dX6_areAlike_19 : decode cX6_areAlike 19 = .ok (.iconst 0, 1) := by decide +kernel
theorem dX6_areAlike_20 : decode cX6_areAlike 20 = .ok (.ireturn, 1) := by decide +kernel
theorem dX6_hasPlace_0 : decode cX6_hasPlace 0 = .ok (.iload_n 2, 1) := by decide +kernel
theorem dX6_hasPlace_1 : decode cX6_hasPlace 1 = .ok (.ifCond .lt 17, 3) := by decide +kernel
theorem dX6_hasPlace_4 : decode cX6_hasPlace 4 = .ok (.iload_n 2, 1) := by decide +kernel
theorem dX6_hasPlace_5 : decode cX6_hasPlace 5 = .ok (.aload_n 0, 1) := by decide +kernel
theorem dX6_hasPlace_6 : decode cX6_hasPlace 6 = .ok (.getfield 15, 3) := by decide +kernel
theorem dX6_hasPlace_9 : decode cX6_hasPlace 9 = .ok (.iload_n 1, 1) := by decide +kernel
theorem dX6_hasPlace_10 : decode cX6_hasPlace 10 = .ok (.iaload, 1) := by decide +kernel
theorem dX6_hasPlace_11 : decode cX6_hasPlace 11 = .ok (.if_icmp .ge 7, 3) := by decide +kernel
theorem dX6_hasPlace_14 : decode cX6_hasPlace 14 = .ok (.iconst 1, 1) := by decide +kernel
theorem dX6_hasPlace_15 : decode cX6_hasPlace 15 = .ok (.goto 4, 3) := by decide +kernel
theorem dX6_hasPlace_18 : decode cX6_hasPlace 18 = .ok (.iconst 0, 1) := by decide +kernel
theorem dX6_hasPlace_19 : decode cX6_hasPlace 19 = .ok (.ireturn, 1) := by decide +kernel
theorem dX6_hasRun_0 : decode cX6_hasRun 0 = .ok (.iload_n 2, 1) := by decide +kernel
theorem dX6_hasRun_1 : decode cX6_hasRun 1 = .ok (.i2l, 1) := by decide +kernel
theorem dX6_hasRun_2 : decode cX6_hasRun 2 = .ok (.iload_n 3, 1) := by decide +kernel
theorem dX6_hasRun_3 : decode cX6_hasRun 3 = .ok (.i2l, 1) := by decide +kernel
theorem dX6_hasRun_4 : decode cX6_hasRun 4 = .ok (.ladd, 1) := by decide +kernel
theorem dX6_hasRun_5 : decode cX6_hasRun 5 = .ok (.aload_n 0, 1) := by decide +kernel
theorem dX6_hasRun_6 : decode cX6_hasRun 6 = .ok (.getfield 15, 3) := by decide +kernel
theorem dX6_hasRun_9 : decode cX6_hasRun 9 = .ok (.iload_n 1, 1) := by decide +kernel
theorem dX6_hasRun_10 : decode cX6_hasRun 10 = .ok (.iaload, 1) := by decide +kernel
theorem dX6_hasRun_11 : decode cX6_hasRun 11 = .ok (.i2l, 1) := by decide +kernel
theorem dX6_hasRun_12 : decode cX6_hasRun 12 = .ok (.lcmp, 1) := by decide +kernel
theorem dX6_hasRun_13 : decode cX6_hasRun 13 = .ok (.ifCond .gt 7, 3) := by decide +kernel
theorem dX6_hasRun_16 : decode cX6_hasRun 16 = .ok (.iconst 1, 1) := by decide +kernel
theorem dX6_hasRun_17 : decode cX6_hasRun 17 = .ok (.goto 4, 3) := by decide +kernel
theorem dX6_hasRun_20 : decode cX6_hasRun 20 = .ok (.iconst 0, 1) := by decide +kernel
theorem dX6_hasRun_21 : decode cX6_hasRun 21 = .ok (.ireturn, 1) := by decide +kernel
set_option maxRecDepth 20000 in
theorem ggX6_startsWithVotes_X6_at : GoodIn wsX6_startsWithVotes wsX6_at := goodIn_r _ [6, 7, 8, 9, 10] (by decide +kernel) (by decide +kernel)
set_option maxRecDepth 20000 in
theorem gX6_startsWithVotes_X6_at : GoodIn wsX6_startsWithVotes (wsV RX6 22 RX6 yX6_at wsX6_at) := goodIn_app (goodIn_of _ (by decide +kernel)) ggX6_startsWithVotes_X6_at
theorem dX6_startsWithVotes_0 : decode cX6_startsWithVotes 0 = .ok (.iconst 0, 1) := by decide +kernel
theorem dX6_startsWithVotes_1 : decode cX6_startsWithVotes 1 = .ok (.istore_n 3, 1) := by decide +kernel
theorem dX6_startsWithVotes_2 : decode cX6_startsWithVotes 2 = .ok (.iload_n 3, 1) := by decide +kernel
theorem dX6_startsWithVotes_3 : decode cX6_startsWithVotes 3 = .ok (.iload_n 2, 1) := by decide +kernel
theorem dX6_startsWithVotes_4 : decode cX6_startsWithVotes 4 = .ok (.if_icmp .ge 35, 3) := by decide +kernel
theorem dX6_startsWithVotes_7 : decode cX6_startsWithVotes 7 = .ok (.aload_n 0, 1) := by decide +kernel
theorem dX6_startsWithVotes_8 : decode cX6_startsWithVotes 8 = .ok (.iload_n 1, 1) := by decide +kernel
theorem dX6_startsWithVotes_9 : decode cX6_startsWithVotes 9 = .ok (.iload_n 3, 1) := by decide +kernel
theorem dX6_startsWithVotes_10 : decode cX6_startsWithVotes 10 = .ok (.invokevirtual 22, 3) := by decide +kernel
theorem dX6_startsWithVotes_13 : decode cX6_startsWithVotes 13 = .ok (.lstore 4, 2) := by decide +kernel
theorem dX6_startsWithVotes_15 : decode cX6_startsWithVotes 15 = .ok (.lload 4, 2) := by decide +kernel
theorem dX6_startsWithVotes_17 : decode cX6_startsWithVotes 17 = .ok (.lconst 0, 1) := by decide +kernel
theorem dX6_startsWithVotes_18 : decode cX6_startsWithVotes 18 = .ok (.lcmp, 1) := by decide +kernel
theorem dX6_startsWithVotes_19 : decode cX6_startsWithVotes 19 = .ok (.ifCond .lt 12, 3) := by decide +kernel
theorem dX6_startsWithVotes_22 : decode cX6_startsWithVotes 22 = .ok (.lload 4, 2) := by decide +kernel
theorem dX6_startsWithVotes_24 : decode cX6_startsWithVotes 24 = .ok (.ldc2_w 26, 3) := by decide +kernel
theorem dX6_startsWithVotes_27 : decode cX6_startsWithVotes 27 = .ok (.lcmp, 1) := by decide +kernel
theorem dX6_startsWithVotes_28 : decode cX6_startsWithVotes 28 = .ok (.ifCond .le 5, 3) := by decide +kernel
theorem dX6_startsWithVotes_31 : decode cX6_startsWithVotes 31 = .ok (.iconst 0, 1) := by decide +kernel
theorem dX6_startsWithVotes_32 : decode cX6_startsWithVotes 32 = .ok (.ireturn, 1) := by decide +kernel
theorem dX6_startsWithVotes_33 : decode cX6_startsWithVotes 33 = .ok (.iinc 3 1, 3) := by decide +kernel
theorem dX6_startsWithVotes_36 : decode cX6_startsWithVotes 36 = .ok (.goto (-34), 3) := by decide +kernel
theorem dX6_startsWithVotes_39 : decode cX6_startsWithVotes 39 = .ok (.iconst 1, 1) := by decide +kernel
theorem dX6_startsWithVotes_40 : decode cX6_startsWithVotes 40 = .ok (.ireturn, 1) := by decide +kernel
theorem dX6_at_0 : decode cX6_at 0 = .ok (.aload_n 0, 1) := by decide +kernel
theorem dX6_at_1 : decode cX6_at 1 = .ok (.getfield 18, 3) := by decide +kernel
theorem dX6_at_4 : decode cX6_at 4 = .ok (.iload_n 1, 1) := by decide +kernel
theorem dX6_at_5 : decode cX6_at 5 = .ok (.bipush 20, 2) := by decide +kernel
theorem dX6_at_7 : decode cX6_at 7 = .ok (.imul, 1) := by decide +kernel
theorem dX6_at_8 : decode cX6_at 8 = .ok (.iload_n 2, 1) := by decide +kernel
theorem dX6_at_9 : decode cX6_at 9 = .ok (.iadd, 1) := by decide +kernel
theorem dX6_at_10 : decode cX6_at 10 = .ok (.laload, 1) := by decide +kernel
theorem dX6_at_11 : decode cX6_at 11 = .ok (.lreturn, 1) := by decide +kernel
theorem dX6_put_0 : decode cX6_put 0 = .ok (.bipush 64, 2) := by decide +kernel
theorem dX6_put_2 : decode cX6_put 2 = .ok (.bipush 8, 2) := by decide +kernel
theorem dX6_put_4 : decode cX6_put 4 = .ok (.aload_n 0, 1) := by decide +kernel
theorem dX6_put_5 : decode cX6_put 5 = .ok (.getfield 9, 3) := by decide +kernel
theorem dX6_put_8 : decode cX6_put 8 = .ok (.iload_n 1, 1) := by decide +kernel
theorem dX6_put_9 : decode cX6_put 9 = .ok (.iaload, 1) := by decide +kernel
theorem dX6_put_10 : decode cX6_put 10 = .ok (.ishl, 1) := by decide +kernel
theorem dX6_put_11 : decode cX6_put 11 = .ok (.isub, 1) := by decide +kernel
theorem dX6_put_12 : decode cX6_put 12 = .ok (.istore 5, 2) := by decide +kernel
theorem dX6_put_14 : decode cX6_put 14 = .ok (.aload_n 0, 1) := by decide +kernel
theorem dX6_put_15 : decode cX6_put 15 = .ok (.getfield 18, 3) := by decide +kernel
theorem dX6_put_18 : decode cX6_put 18 = .ok (.iload_n 1, 1) := by decide +kernel
theorem dX6_put_19 : decode cX6_put 19 = .ok (.bipush 20, 2) := by decide +kernel
theorem dX6_put_21 : decode cX6_put 21 = .ok (.imul, 1) := by decide +kernel
theorem dX6_put_22 : decode cX6_put 22 = .ok (.iload_n 2, 1) := by decide +kernel
theorem dX6_put_23 : decode cX6_put 23 = .ok (.iadd, 1) := by decide +kernel
theorem dX6_put_24 : decode cX6_put 24 = .ok (.lload_n 3, 1) := by decide +kernel
theorem dX6_put_25 : decode cX6_put 25 = .ok (.iload 5, 2) := by decide +kernel
theorem dX6_put_27 : decode cX6_put 27 = .ok (.lshl, 1) := by decide +kernel
theorem dX6_put_28 : decode cX6_put 28 = .ok (.iload 5, 2) := by decide +kernel
theorem dX6_put_30 : decode cX6_put 30 = .ok (.lshr, 1) := by decide +kernel
theorem dX6_put_31 : decode cX6_put 31 = .ok (.lastore, 1) := by decide +kernel
theorem dX6_put_32 : decode cX6_put 32 = .ok (.return_, 1) := by decide +kernel
theorem dX6_copyRun_0 : decode cX6_copyRun 0 = .ok (.aload_n 0, 1) := by decide +kernel
theorem dX6_copyRun_1 : decode cX6_copyRun 1 = .ok (.getfield 18, 3) := by decide +kernel
theorem dX6_copyRun_4 : decode cX6_copyRun 4 = .ok (.iload_n 1, 1) := by decide +kernel
theorem dX6_copyRun_5 : decode cX6_copyRun 5 = .ok (.bipush 20, 2) := by decide +kernel
theorem dX6_copyRun_7 : decode cX6_copyRun 7 = .ok (.imul, 1) := by decide +kernel
theorem dX6_copyRun_8 : decode cX6_copyRun 8 = .ok (.iload_n 2, 1) := by decide +kernel
theorem dX6_copyRun_9 : decode cX6_copyRun 9 = .ok (.iadd, 1) := by decide +kernel
theorem dX6_copyRun_10 : decode cX6_copyRun 10 = .ok (.aload_n 0, 1) := by decide +kernel
theorem dX6_copyRun_11 : decode cX6_copyRun 11 = .ok (.getfield 18, 3) := by decide +kernel
theorem dX6_copyRun_14 : decode cX6_copyRun 14 = .ok (.iload_n 3, 1) := by decide +kernel
theorem dX6_copyRun_15 : decode cX6_copyRun 15 = .ok (.bipush 20, 2) := by decide +kernel
theorem dX6_copyRun_17 : decode cX6_copyRun 17 = .ok (.imul, 1) := by decide +kernel
theorem dX6_copyRun_18 : decode cX6_copyRun 18 = .ok (.iload 4, 2) := by decide +kernel
theorem dX6_copyRun_20 : decode cX6_copyRun 20 = .ok (.iadd, 1) := by decide +kernel
theorem dX6_copyRun_21 : decode cX6_copyRun 21 = .ok (.iload 5, 2) := by decide +kernel
theorem dX6_copyRun_23 : decode cX6_copyRun 23 = .ok (.invokestatic 28, 3) := by decide +kernel
theorem dX6_copyRun_26 : decode cX6_copyRun 26 = .ok (.return_, 1) := by decide +kernel
set_option maxRecDepth 20000 in
theorem ggX7_init_X6_init : GoodIn wsX7_init wsX6_init := goodIn_r _ [37, 38, 2, 3, 39, 40, 41, 42, 43, 86, 87, 88] (by decide +kernel) (by decide +kernel)
set_option maxRecDepth 20000 in
theorem gX7_init_X6_init_n11 : GoodIn wsX7_init (wsX6_init) := ggX7_init_X6_init
set_option maxRecDepth 20000 in
theorem ggX7_init_X4_init : GoodIn wsX7_init wsX4_init := goodIn_r _ [45, 46, 2, 3, 39, 47, 48, 49, 50, 51, 52, 53, 54, 100, 101, 102, 103, 104, 105, 106, 107] (by decide +kernel) (by decide +kernel)
set_option maxRecDepth 20000 in
theorem gX7_init_X4_init_n18 : GoodIn wsX7_init (wsX4_init) := ggX7_init_X4_init
set_option maxRecDepth 20000 in
theorem ggX7_init_X5_init : GoodIn wsX7_init wsX5_init := goodIn_r _ [56, 57, 2, 3, 39, 58, 59, 49, 60, 61, 62, 63, 64, 108, 109, 110, 111, 112, 113, 114, 115, 116] (by decide +kernel) (by decide +kernel)
set_option maxRecDepth 20000 in
theorem gX7_init_X5_init_n25 : GoodIn wsX7_init (wsX5_init) := ggX7_init_X5_init
set_option maxRecDepth 20000 in
theorem ggX7_init_X1_init : GoodIn wsX7_init wsX1_init := goodIn_r _ [66, 67, 2, 3, 49, 68, 117] (by decide +kernel) (by decide +kernel)
set_option maxRecDepth 20000 in
theorem gX7_init_X1_init_n32 : GoodIn wsX7_init (wsX1_init) := ggX7_init_X1_init
set_option maxRecDepth 20000 in
theorem ggX7_init_X2_init : GoodIn wsX7_init wsX2_init := goodIn_r _ [70, 71, 2, 3, 39, 72, 42, 73, 74, 75, 118, 119, 120, 121] (by decide +kernel) (by decide +kernel)
set_option maxRecDepth 20000 in
theorem gX7_init_X2_init_n39 : GoodIn wsX7_init (wsX2_init) := ggX7_init_X2_init
set_option maxRecDepth 20000 in
theorem ggX7_init_X3_init : GoodIn wsX7_init wsX3_init := goodIn_r _ [77, 78, 2, 3, 49, 79, 39, 80, 122, 123, 124, 125, 126, 127] (by decide +kernel) (by decide +kernel)
set_option maxRecDepth 20000 in
theorem gX7_init_X3_init_n46 : GoodIn wsX7_init (wsX3_init) := ggX7_init_X3_init
set_option maxRecDepth 20000 in
theorem ggX7_init_X0_init : GoodIn wsX7_init wsX0_init := goodIn_r _ [82, 83, 2, 3, 84, 85, 128, 129] (by decide +kernel) (by decide +kernel)
set_option maxRecDepth 20000 in
theorem gX7_init_X0_init_n53 : GoodIn wsX7_init (wsX0_init) := ggX7_init_X0_init
theorem dX7_init_0 : decode cX7_init 0 = .ok (.aload_n 0, 1) := by decide +kernel
theorem dX7_init_1 : decode cX7_init 1 = .ok (.invokespecial 3, 3) := by decide +kernel
theorem dX7_init_4 : decode cX7_init 4 = .ok (.aload_n 0, 1) := by decide +kernel
theorem dX7_init_5 : decode cX7_init 5 = .ok (.new 9, 3) := by decide +kernel
theorem dX7_init_8 : decode cX7_init 8 = .ok (.dup, 1) := by decide +kernel
theorem dX7_init_9 : decode cX7_init 9 = .ok (.invokespecial 11, 3) := by decide +kernel
theorem dX7_init_12 : decode cX7_init 12 = .ok (.putfield 12, 3) := by decide +kernel
theorem dX7_init_15 : decode cX7_init 15 = .ok (.aload_n 0, 1) := by decide +kernel
theorem dX7_init_16 : decode cX7_init 16 = .ok (.new 16, 3) := by decide +kernel
theorem dX7_init_19 : decode cX7_init 19 = .ok (.dup, 1) := by decide +kernel
theorem dX7_init_20 : decode cX7_init 20 = .ok (.invokespecial 18, 3) := by decide +kernel
theorem dX7_init_23 : decode cX7_init 23 = .ok (.putfield 19, 3) := by decide +kernel
theorem dX7_init_26 : decode cX7_init 26 = .ok (.aload_n 0, 1) := by decide +kernel
theorem dX7_init_27 : decode cX7_init 27 = .ok (.new 23, 3) := by decide +kernel
theorem dX7_init_30 : decode cX7_init 30 = .ok (.dup, 1) := by decide +kernel
theorem dX7_init_31 : decode cX7_init 31 = .ok (.invokespecial 25, 3) := by decide +kernel
theorem dX7_init_34 : decode cX7_init 34 = .ok (.putfield 26, 3) := by decide +kernel
theorem dX7_init_37 : decode cX7_init 37 = .ok (.aload_n 0, 1) := by decide +kernel
theorem dX7_init_38 : decode cX7_init 38 = .ok (.new 30, 3) := by decide +kernel
theorem dX7_init_41 : decode cX7_init 41 = .ok (.dup, 1) := by decide +kernel
theorem dX7_init_42 : decode cX7_init 42 = .ok (.invokespecial 32, 3) := by decide +kernel
theorem dX7_init_45 : decode cX7_init 45 = .ok (.putfield 33, 3) := by decide +kernel
theorem dX7_init_48 : decode cX7_init 48 = .ok (.aload_n 0, 1) := by decide +kernel
theorem dX7_init_49 : decode cX7_init 49 = .ok (.new 37, 3) := by decide +kernel
theorem dX7_init_52 : decode cX7_init 52 = .ok (.dup, 1) := by decide +kernel
theorem dX7_init_53 : decode cX7_init 53 = .ok (.invokespecial 39, 3) := by decide +kernel
theorem dX7_init_56 : decode cX7_init 56 = .ok (.putfield 40, 3) := by decide +kernel
theorem dX7_init_59 : decode cX7_init 59 = .ok (.aload_n 0, 1) := by decide +kernel
theorem dX7_init_60 : decode cX7_init 60 = .ok (.new 44, 3) := by decide +kernel
theorem dX7_init_63 : decode cX7_init 63 = .ok (.dup, 1) := by decide +kernel
theorem dX7_init_64 : decode cX7_init 64 = .ok (.invokespecial 46, 3) := by decide +kernel
theorem dX7_init_67 : decode cX7_init 67 = .ok (.putfield 47, 3) := by decide +kernel
theorem dX7_init_70 : decode cX7_init 70 = .ok (.aload_n 0, 1) := by decide +kernel
theorem dX7_init_71 : decode cX7_init 71 = .ok (.new 51, 3) := by decide +kernel
theorem dX7_init_74 : decode cX7_init 74 = .ok (.dup, 1) := by decide +kernel
theorem dX7_init_75 : decode cX7_init 75 = .ok (.invokespecial 53, 3) := by decide +kernel
theorem dX7_init_78 : decode cX7_init 78 = .ok (.putfield 54, 3) := by decide +kernel
theorem dX7_init_81 : decode cX7_init 81 = .ok (.aload_n 0, 1) := by decide +kernel
theorem dX7_init_82 : decode cX7_init 82 = .ok (.new 51, 3) := by decide +kernel
theorem dX7_init_85 : decode cX7_init 85 = .ok (.dup, 1) := by decide +kernel
theorem dX7_init_86 : decode cX7_init 86 = .ok (.invokespecial 53, 3) := by decide +kernel
theorem dX7_init_89 : decode cX7_init 89 = .ok (.putfield 58, 3) := by decide +kernel
theorem dX7_init_92 : decode cX7_init 92 = .ok (.aload_n 0, 1) := by decide +kernel
theorem dX7_init_93 : decode cX7_init 93 = .ok (.new 51, 3) := by decide +kernel
theorem dX7_init_96 : decode cX7_init 96 = .ok (.dup, 1) := by decide +kernel
theorem dX7_init_97 : decode cX7_init 97 = .ok (.invokespecial 53, 3) := by decide +kernel
theorem dX7_init_100 : decode cX7_init 100 = .ok (.putfield 61, 3) := by decide +kernel
theorem dX7_init_103 : decode cX7_init 103 = .ok (.aload_n 0, 1) := by decide +kernel
theorem dX7_init_104 : decode cX7_init 104 = .ok (.iconst 2, 1) := by decide +kernel
theorem dX7_init_105 : decode cX7_init 105 = .ok (.putfield 64, 3) := by decide +kernel
theorem dX7_init_108 : decode cX7_init 108 = .ok (.aload_n 0, 1) := by decide +kernel
theorem dX7_init_109 : decode cX7_init 109 = .ok (.iconst 0, 1) := by decide +kernel
theorem dX7_init_110 : decode cX7_init 110 = .ok (.putfield 68, 3) := by decide +kernel
theorem dX7_init_113 : decode cX7_init 113 = .ok (.return_, 1) := by decide +kernel
theorem dX7_status_0 : decode cX7_status 0 = .ok (.aload_n 0, 1) := by decide +kernel
theorem dX7_status_1 : decode cX7_status 1 = .ok (.getfield 68, 3) := by decide +kernel
theorem dX7_status_4 : decode cX7_status 4 = .ok (.ireturn, 1) := by decide +kernel
theorem dX7_top_0 : decode cX7_top 0 = .ok (.aload_n 0, 1) := by decide +kernel
theorem dX7_top_1 : decode cX7_top 1 = .ok (.getfield 54, 3) := by decide +kernel
theorem dX7_top_4 : decode cX7_top 4 = .ok (.getfield 71, 3) := by decide +kernel
theorem dX7_top_7 : decode cX7_top 7 = .ok (.lreturn, 1) := by decide +kernel
theorem dX7_bottom_0 : decode cX7_bottom 0 = .ok (.aload_n 0, 1) := by decide +kernel
theorem dX7_bottom_1 : decode cX7_bottom 1 = .ok (.getfield 54, 3) := by decide +kernel
theorem dX7_bottom_4 : decode cX7_bottom 4 = .ok (.getfield 75, 3) := by decide +kernel
theorem dX7_bottom_7 : decode cX7_bottom 7 = .ok (.lreturn, 1) := by decide +kernel
set_option maxRecDepth 20000 in
theorem ggX7_tray_X7_isTray : GoodIn wsX7_tray wsX7_isTray := goodIn_r _ [5, 6, 7, 4, 8] (by decide +kernel) (by decide +kernel)
set_option maxRecDepth 20000 in
theorem gX7_tray_X7_isTray : GoodIn wsX7_tray (va_wsS RX7 78 yX7_isTray wsX7_isTray) := goodIn_app (goodIn_of _ (by decide +kernel)) ggX7_tray_X7_isTray
set_option maxRecDepth 20000 in
theorem ggX7_tray_X7_isWithin : GoodIn wsX7_tray wsX7_isWithin := goodIn_r _ [8] (by decide +kernel) (by decide +kernel)
set_option maxRecDepth 20000 in
theorem gX7_tray_X7_isWithin : GoodIn wsX7_tray (va_wsS RX7 82 yX7_isWithin wsX7_isWithin) := goodIn_app (goodIn_of _ (by decide +kernel)) ggX7_tray_X7_isWithin
set_option maxRecDepth 20000 in
theorem ggX7_tray_X7_isDone : GoodIn wsX7_tray wsX7_isDone := goodIn_r _ [12, 13, 21, 22, 23, 24, 25, 26, 27, 28, 29, 30, 31] (by decide +kernel) (by decide +kernel)
set_option maxRecDepth 20000 in
theorem gX7_tray_X7_isDone : GoodIn wsX7_tray (wsV RX7 86 RX7 yX7_isDone wsX7_isDone) := goodIn_app (goodIn_of _ (by decide +kernel)) ggX7_tray_X7_isDone
set_option maxRecDepth 20000 in
theorem ggX7_tray_X6_lay : GoodIn wsX7_tray wsX6_lay := goodIn_r _ [17, 18, 19, 20, 32, 33, 34] (by decide +kernel) (by decide +kernel)
set_option maxRecDepth 20000 in
theorem gX7_tray_X6_lay_n89 : GoodIn wsX7_tray (wsX6_lay) := ggX7_tray_X6_lay
theorem dX7_tray_0 : decode cX7_tray 0 = .ok (.iload_n 1, 1) := by decide +kernel
theorem dX7_tray_1 : decode cX7_tray 1 = .ok (.invokestatic 78, 3) := by decide +kernel
theorem dX7_tray_4 : decode cX7_tray 4 = .ok (.ifCond .eq 22, 3) := by decide +kernel
theorem dX7_tray_7 : decode cX7_tray 7 = .ok (.iload_n 2, 1) := by decide +kernel
theorem dX7_tray_8 : decode cX7_tray 8 = .ok (.iconst 0, 1) := by decide +kernel
theorem dX7_tray_9 : decode cX7_tray 9 = .ok (.iconst 3, 1) := by decide +kernel
theorem dX7_tray_10 : decode cX7_tray 10 = .ok (.invokestatic 82, 3) := by decide +kernel
theorem dX7_tray_13 : decode cX7_tray 13 = .ok (.ifCond .eq 13, 3) := by decide +kernel
theorem dX7_tray_16 : decode cX7_tray 16 = .ok (.iload_n 3, 1) := by decide +kernel
theorem dX7_tray_17 : decode cX7_tray 17 = .ok (.iconst 0, 1) := by decide +kernel
theorem dX7_tray_18 : decode cX7_tray 18 = .ok (.bipush 20, 2) := by decide +kernel
theorem dX7_tray_20 : decode cX7_tray 20 = .ok (.invokestatic 82, 3) := by decide +kernel
theorem dX7_tray_23 : decode cX7_tray 23 = .ok (.ifCond .ne 9, 3) := by decide +kernel
theorem dX7_tray_26 : decode cX7_tray 26 = .ok (.aload_n 0, 1) := by decide +kernel
theorem dX7_tray_27 : decode cX7_tray 27 = .ok (.iconst 1, 1) := by decide +kernel
theorem dX7_tray_28 : decode cX7_tray 28 = .ok (.invokevirtual 86, 3) := by decide +kernel
theorem dX7_tray_31 : decode cX7_tray 31 = .ok (.ireturn, 1) := by decide +kernel
theorem dX7_tray_32 : decode cX7_tray 32 = .ok (.aload_n 0, 1) := by decide +kernel
theorem dX7_tray_33 : decode cX7_tray 33 = .ok (.getfield 12, 3) := by decide +kernel
theorem dX7_tray_36 : decode cX7_tray 36 = .ok (.iload_n 1, 1) := by decide +kernel
theorem dX7_tray_37 : decode cX7_tray 37 = .ok (.iload_n 2, 1) := by decide +kernel
theorem dX7_tray_38 : decode cX7_tray 38 = .ok (.iload_n 3, 1) := by decide +kernel
theorem dX7_tray_39 : decode cX7_tray 39 = .ok (.invokevirtual 89, 3) := by decide +kernel
theorem dX7_tray_42 : decode cX7_tray 42 = .ok (.aload_n 0, 1) := by decide +kernel
theorem dX7_tray_43 : decode cX7_tray 43 = .ok (.iconst 0, 1) := by decide +kernel
theorem dX7_tray_44 : decode cX7_tray 44 = .ok (.invokevirtual 86, 3) := by decide +kernel
theorem dX7_tray_47 : decode cX7_tray 47 = .ok (.ireturn, 1) := by decide +kernel
set_option maxRecDepth 20000 in
theorem ggX7_write_X7_whyNoTrayPlace : GoodIn wsX7_write wsX7_whyNoTrayPlace := goodIn_r _ [6, 1, 7, 8, 5, 9, 10, 11, 12, 13, 14, 15, 16, 17, 18, 19, 20, 21, 31, 32, 33, 34, 35, 36, 37, 38, 39, 40, 41, 42, 43, 44] (by decide +kernel) (by decide +kernel)
set_option maxRecDepth 20000 in
theorem gX7_write_X7_whyNoTrayPlace : GoodIn wsX7_write (wsV RX7 93 RX7 yX7_whyNoTrayPlace wsX7_whyNoTrayPlace) := goodIn_app (goodIn_of _ (by decide +kernel)) ggX7_write_X7_whyNoTrayPlace
set_option maxRecDepth 20000 in
theorem ggX7_write_X6_put : GoodIn wsX7_write wsX6_put := goodIn_r _ [24, 17, 25, 42, 43, 44] (by decide +kernel) (by decide +kernel)
set_option maxRecDepth 20000 in
theorem gX7_write_X6_put_n97 : GoodIn wsX7_write (wsX6_put) := ggX7_write_X6_put
set_option maxRecDepth 20000 in
theorem ggX7_write_X7_isDone : GoodIn wsX7_write wsX7_isDone := goodIn_r _ [29, 30, 31, 32, 33, 34, 35, 36, 37, 38, 39, 40, 41] (by decide +kernel) (by decide +kernel)
set_option maxRecDepth 20000 in
theorem gX7_write_X7_isDone : GoodIn wsX7_write (wsV RX7 86 RX7 yX7_isDone wsX7_isDone) := goodIn_app (goodIn_of _ (by decide +kernel)) ggX7_write_X7_isDone
theorem dX7_write_0 : decode cX7_write 0 = .ok (.aload_n 0, 1) := by decide +kernel
theorem dX7_write_1 : decode cX7_write 1 = .ok (.iload_n 1, 1) := by decide +kernel
theorem dX7_write_2 : decode cX7_write 2 = .ok (.iload_n 2, 1) := by decide +kernel
theorem dX7_write_3 : decode cX7_write 3 = .ok (.invokevirtual 93, 3) := by decide +kernel
theorem dX7_write_6 : decode cX7_write 6 = .ok (.istore 5, 2) := by decide +kernel
theorem dX7_write_8 : decode cX7_write 8 = .ok (.iload 5, 2) := by decide +kernel
theorem dX7_write_10 : decode cX7_write 10 = .ok (.ifCond .ne 13, 3) := by decide +kernel
theorem dX7_write_13 : decode cX7_write 13 = .ok (.aload_n 0, 1) := by decide +kernel
theorem dX7_write_14 : decode cX7_write 14 = .ok (.getfield 12, 3) := by decide +kernel
theorem dX7_write_17 : decode cX7_write 17 = .ok (.iload_n 1, 1) := by decide +kernel
theorem dX7_write_18 : decode cX7_write 18 = .ok (.iload_n 2, 1) := by decide +kernel
theorem dX7_write_19 : decode cX7_write 19 = .ok (.lload_n 3, 1) := by decide +kernel
theorem dX7_write_20 : decode cX7_write 20 = .ok (.invokevirtual 97, 3) := by decide +kernel
theorem dX7_write_23 : decode cX7_write 23 = .ok (.aload_n 0, 1) := by decide +kernel
theorem dX7_write_24 : decode cX7_write 24 = .ok (.iload 5, 2) := by decide +kernel
theorem dX7_write_26 : decode cX7_write 26 = .ok (.invokevirtual 86, 3) := by decide +kernel
theorem dX7_write_29 : decode cX7_write 29 = .ok (.ireturn, 1) := by decide +kernel
set_option maxRecDepth 20000 in
theorem ggX7_read_X7_whyNoTrayPlace : GoodIn wsX7_read wsX7_whyNoTrayPlace := goodIn_r _ [7, 2, 8, 9, 6, 10, 11, 12, 13, 14, 15, 16, 17, 18, 19, 20, 21, 22, 31, 32, 33, 34, 35, 36, 37, 38, 39, 40, 41, 42, 43, 44] (by decide +kernel) (by decide +kernel)
set_option maxRecDepth 20000 in
theorem gX7_read_X7_whyNoTrayPlace : GoodIn wsX7_read (wsV RX7 93 RX7 yX7_whyNoTrayPlace wsX7_whyNoTrayPlace) := goodIn_app (goodIn_of _ (by decide +kernel)) ggX7_read_X7_whyNoTrayPlace
set_option maxRecDepth 20000 in
theorem ggX7_read_X7_refused : GoodIn wsX7_read wsX7_refused := goodIn_r _ [26, 1, 31, 32, 33, 34, 35, 36, 37, 38, 39, 40, 41] (by decide +kernel) (by decide +kernel)
set_option maxRecDepth 20000 in
theorem gX7_read_X7_refused : GoodIn wsX7_read (wsV RX7 101 RX7 yX7_refused wsX7_refused) := goodIn_app (goodIn_of _ (by decide +kernel)) ggX7_read_X7_refused
set_option maxRecDepth 20000 in
theorem ggX7_read_X6_at : GoodIn wsX7_read wsX6_at := goodIn_r _ [29, 30, 42, 43, 44] (by decide +kernel) (by decide +kernel)
set_option maxRecDepth 20000 in
theorem gX7_read_X6_at_n105 : GoodIn wsX7_read (wsX6_at) := ggX7_read_X6_at
theorem dX7_read_0 : decode cX7_read 0 = .ok (.aload_n 0, 1) := by decide +kernel
theorem dX7_read_1 : decode cX7_read 1 = .ok (.iload_n 1, 1) := by decide +kernel
theorem dX7_read_2 : decode cX7_read 2 = .ok (.iload_n 2, 1) := by decide +kernel
theorem dX7_read_3 : decode cX7_read 3 = .ok (.invokevirtual 93, 3) := by decide +kernel
theorem dX7_read_6 : decode cX7_read 6 = .ok (.istore_n 3, 1) := by decide +kernel
theorem dX7_read_7 : decode cX7_read 7 = .ok (.iload_n 3, 1) := by decide +kernel
theorem dX7_read_8 : decode cX7_read 8 = .ok (.ifCond .eq 10, 3) := by decide +kernel
theorem dX7_read_11 : decode cX7_read 11 = .ok (.aload_n 0, 1) := by decide +kernel
theorem dX7_read_12 : decode cX7_read 12 = .ok (.iload_n 3, 1) := by decide +kernel
theorem dX7_read_13 : decode cX7_read 13 = .ok (.invokevirtual 101, 3) := by decide +kernel
theorem dX7_read_16 : decode cX7_read 16 = .ok (.i2l, 1) := by decide +kernel
theorem dX7_read_17 : decode cX7_read 17 = .ok (.lreturn, 1) := by decide +kernel
theorem dX7_read_18 : decode cX7_read 18 = .ok (.aload_n 0, 1) := by decide +kernel
theorem dX7_read_19 : decode cX7_read 19 = .ok (.iconst 0, 1) := by decide +kernel
theorem dX7_read_20 : decode cX7_read 20 = .ok (.putfield 68, 3) := by decide +kernel
theorem dX7_read_23 : decode cX7_read 23 = .ok (.aload_n 0, 1) := by decide +kernel
theorem dX7_read_24 : decode cX7_read 24 = .ok (.getfield 12, 3) := by decide +kernel
theorem dX7_read_27 : decode cX7_read 27 = .ok (.iload_n 1, 1) := by decide +kernel
theorem dX7_read_28 : decode cX7_read 28 = .ok (.iload_n 2, 1) := by decide +kernel
theorem dX7_read_29 : decode cX7_read 29 = .ok (.invokevirtual 105, 3) := by decide +kernel
theorem dX7_read_32 : decode cX7_read 32 = .ok (.lreturn, 1) := by decide +kernel
set_option maxRecDepth 20000 in
theorem ggX7_pour_X7_isTray : GoodIn wsX7_pour wsX7_isTray := goodIn_r _ [5, 6, 7, 4, 8] (by decide +kernel) (by decide +kernel)
set_option maxRecDepth 20000 in
theorem gX7_pour_X7_isTray : GoodIn wsX7_pour (va_wsS RX7 78 yX7_isTray wsX7_isTray) := goodIn_app (goodIn_of _ (by decide +kernel)) ggX7_pour_X7_isTray
set_option maxRecDepth 20000 in
theorem ggX7_pour_X7_isDone : GoodIn wsX7_pour wsX7_isDone := goodIn_r _ [12, 13, 34, 35, 36, 37, 38, 39, 40, 41, 42, 43, 44] (by decide +kernel) (by decide +kernel)
set_option maxRecDepth 20000 in
theorem gX7_pour_X7_isDone : GoodIn wsX7_pour (wsV RX7 86 RX7 yX7_isDone wsX7_isDone) := goodIn_app (goodIn_of _ (by decide +kernel)) ggX7_pour_X7_isDone
set_option maxRecDepth 20000 in
theorem ggX7_pour_X6_isMissing : GoodIn wsX7_pour wsX6_isMissing := goodIn_r _ [17, 18, 45, 46, 47] (by decide +kernel) (by decide +kernel)
set_option maxRecDepth 20000 in
theorem gX7_pour_X6_isMissing_n109 : GoodIn wsX7_pour (wsX6_isMissing) := ggX7_pour_X6_isMissing
set_option maxRecDepth 20000 in
theorem ggX7_pour_X6_areAlike : GoodIn wsX7_pour wsX6_areAlike := goodIn_r _ [21, 18, 45, 46, 47] (by decide +kernel) (by decide +kernel)
set_option maxRecDepth 20000 in
theorem gX7_pour_X6_areAlike_n112 : GoodIn wsX7_pour (wsX6_areAlike) := ggX7_pour_X6_areAlike
set_option maxRecDepth 20000 in
theorem ggX7_pour_X6_hasRun : GoodIn wsX7_pour wsX6_hasRun := goodIn_r _ [24, 25, 45, 46, 47] (by decide +kernel) (by decide +kernel)
set_option maxRecDepth 20000 in
theorem gX7_pour_X6_hasRun_n116 : GoodIn wsX7_pour (wsX6_hasRun) := ggX7_pour_X6_hasRun
set_option maxRecDepth 20000 in
theorem ggX7_pour_X6_copyRun : GoodIn wsX7_pour wsX6_copyRun := goodIn_r _ [28, 29, 30, 31, 32, 33, 45, 46, 47] (by decide +kernel) (by decide +kernel)
set_option maxRecDepth 20000 in
theorem gX7_pour_X6_copyRun_n119 : GoodIn wsX7_pour (wsX6_copyRun) := ggX7_pour_X6_copyRun
theorem dX7_pour_0 : decode cX7_pour 0 = .ok (.iload_n 1, 1) := by decide +kernel
theorem dX7_pour_1 : decode cX7_pour 1 = .ok (.invokestatic 78, 3) := by decide +kernel
theorem dX7_pour_4 : decode cX7_pour 4 = .ok (.ifCond .eq 24, 3) := by decide +kernel
theorem dX7_pour_7 : decode cX7_pour 7 = .ok (.iload_n 3, 1) := by decide +kernel
theorem dX7_pour_8 : decode cX7_pour 8 = .ok (.invokestatic 78, 3) := by decide +kernel
theorem dX7_pour_11 : decode cX7_pour 11 = .ok (.ifCond .eq 17, 3) := by decide +kernel
theorem dX7_pour_14 : decode cX7_pour 14 = .ok (.iload_n 2, 1) := by decide +kernel
theorem dX7_pour_15 : decode cX7_pour 15 = .ok (.ifCond .lt 13, 3) := by decide +kernel
theorem dX7_pour_18 : decode cX7_pour 18 = .ok (.iload 4, 2) := by decide +kernel
theorem dX7_pour_20 : decode cX7_pour 20 = .ok (.ifCond .lt 8, 3) := by decide +kernel
theorem dX7_pour_23 : decode cX7_pour 23 = .ok (.iload 5, 2) := by decide +kernel
theorem dX7_pour_25 : decode cX7_pour 25 = .ok (.ifCond .ge 9, 3) := by decide +kernel
theorem dX7_pour_28 : decode cX7_pour 28 = .ok (.aload_n 0, 1) := by decide +kernel
theorem dX7_pour_29 : decode cX7_pour 29 = .ok (.iconst 1, 1) := by decide +kernel
theorem dX7_pour_30 : decode cX7_pour 30 = .ok (.invokevirtual 86, 3) := by decide +kernel
theorem dX7_pour_33 : decode cX7_pour 33 = .ok (.ireturn, 1) := by decide +kernel
theorem dX7_pour_34 : decode cX7_pour 34 = .ok (.aload_n 0, 1) := by decide +kernel
theorem dX7_pour_35 : decode cX7_pour 35 = .ok (.getfield 12, 3) := by decide +kernel
theorem dX7_pour_38 : decode cX7_pour 38 = .ok (.iload_n 1, 1) := by decide +kernel
theorem dX7_pour_39 : decode cX7_pour 39 = .ok (.invokevirtual 109, 3) := by decide +kernel
theorem dX7_pour_42 : decode cX7_pour 42 = .ok (.ifCond .ne 14, 3) := by decide +kernel
theorem dX7_pour_45 : decode cX7_pour 45 = .ok (.aload_n 0, 1) := by decide +kernel
theorem dX7_pour_46 : decode cX7_pour 46 = .ok (.getfield 12, 3) := by decide +kernel
theorem dX7_pour_49 : decode cX7_pour 49 = .ok (.iload_n 3, 1) := by decide +kernel
theorem dX7_pour_50 : decode cX7_pour 50 = .ok (.invokevirtual 109, 3) := by decide +kernel
theorem dX7_pour_53 : decode cX7_pour 53 = .ok (.ifCond .eq 9, 3) := by decide +kernel
theorem dX7_pour_56 : decode cX7_pour 56 = .ok (.aload_n 0, 1) := by decide +kernel
theorem dX7_pour_57 : decode cX7_pour 57 = .ok (.iconst 3, 1) := by decide +kernel
theorem dX7_pour_58 : decode cX7_pour 58 = .ok (.invokevirtual 86, 3) := by decide +kernel
theorem dX7_pour_61 : decode cX7_pour 61 = .ok (.ireturn, 1) := by decide +kernel
theorem dX7_pour_62 : decode cX7_pour 62 = .ok (.aload_n 0, 1) := by decide +kernel
theorem dX7_pour_63 : decode cX7_pour 63 = .ok (.getfield 12, 3) := by decide +kernel
theorem dX7_pour_66 : decode cX7_pour 66 = .ok (.iload_n 1, 1) := by decide +kernel
theorem dX7_pour_67 : decode cX7_pour 67 = .ok (.iload_n 3, 1) := by decide +kernel
theorem dX7_pour_68 : decode cX7_pour 68 = .ok (.invokevirtual 112, 3) := by decide +kernel
theorem dX7_pour_71 : decode cX7_pour 71 = .ok (.ifCond .ne 10, 3) := by decide +kernel
theorem dX7_pour_74 : decode cX7_pour 74 = .ok (.aload_n 0, 1) := by decide +kernel
theorem dX7_pour_75 : decode cX7_pour 75 = .ok (.bipush 8, 2) := by decide +kernel
theorem dX7_pour_77 : decode cX7_pour 77 = .ok (.invokevirtual 86, 3) := by decide +kernel
theorem dX7_pour_80 : decode cX7_pour 80 = .ok (.ireturn, 1) := by decide +kernel
theorem dX7_pour_81 : decode cX7_pour 81 = .ok (.aload_n 0, 1) := by decide +kernel
theorem dX7_pour_82 : decode cX7_pour 82 = .ok (.getfield 12, 3) := by decide +kernel
theorem dX7_pour_85 : decode cX7_pour 85 = .ok (.iload_n 1, 1) := by decide +kernel
theorem dX7_pour_86 : decode cX7_pour 86 = .ok (.iload_n 2, 1) := by decide +kernel
theorem dX7_pour_87 : decode cX7_pour 87 = .ok (.iload 5, 2) := by decide +kernel
theorem dX7_pour_89 : decode cX7_pour 89 = .ok (.invokevirtual 116, 3) := by decide +kernel
theorem dX7_pour_92 : decode cX7_pour 92 = .ok (.ifCond .eq 18, 3) := by decide +kernel
theorem dX7_pour_95 : decode cX7_pour 95 = .ok (.aload_n 0, 1) := by decide +kernel
theorem dX7_pour_96 : decode cX7_pour 96 = .ok (.getfield 12, 3) := by decide +kernel
theorem dX7_pour_99 : decode cX7_pour 99 = .ok (.iload_n 3, 1) := by decide +kernel
theorem dX7_pour_100 : decode cX7_pour 100 = .ok (.iload 4, 2) := by decide +kernel
theorem dX7_pour_102 : decode cX7_pour 102 = .ok (.iload 5, 2) := by decide +kernel
theorem dX7_pour_104 : decode cX7_pour 104 = .ok (.invokevirtual 116, 3) := by decide +kernel
theorem dX7_pour_107 : decode cX7_pour 107 = .ok (.ifCond .ne 9, 3) := by decide +kernel
theorem dX7_pour_110 : decode cX7_pour 110 = .ok (.aload_n 0, 1) := by decide +kernel
theorem dX7_pour_111 : decode cX7_pour 111 = .ok (.iconst 4, 1) := by decide +kernel
theorem dX7_pour_112 : decode cX7_pour 112 = .ok (.invokevirtual 86, 3) := by decide +kernel
theorem dX7_pour_115 : decode cX7_pour 115 = .ok (.ireturn, 1) := by decide +kernel
theorem dX7_pour_116 : decode cX7_pour 116 = .ok (.aload_n 0, 1) := by decide +kernel
theorem dX7_pour_117 : decode cX7_pour 117 = .ok (.getfield 12, 3) := by decide +kernel
theorem dX7_pour_120 : decode cX7_pour 120 = .ok (.iload_n 1, 1) := by decide +kernel
theorem dX7_pour_121 : decode cX7_pour 121 = .ok (.iload_n 2, 1) := by decide +kernel
theorem dX7_pour_122 : decode cX7_pour 122 = .ok (.iload_n 3, 1) := by decide +kernel
theorem dX7_pour_123 : decode cX7_pour 123 = .ok (.iload 4, 2) := by decide +kernel
theorem dX7_pour_125 : decode cX7_pour 125 = .ok (.iload 5, 2) := by decide +kernel
theorem dX7_pour_127 : decode cX7_pour 127 = .ok (.invokevirtual 119, 3) := by decide +kernel
theorem dX7_pour_130 : decode cX7_pour 130 = .ok (.aload_n 0, 1) := by decide +kernel
theorem dX7_pour_131 : decode cX7_pour 131 = .ok (.iconst 0, 1) := by decide +kernel
theorem dX7_pour_132 : decode cX7_pour 132 = .ok (.invokevirtual 86, 3) := by decide +kernel
theorem dX7_pour_135 : decode cX7_pour 135 = .ok (.ireturn, 1) := by decide +kernel
set_option maxRecDepth 20000 in
theorem ggX7_parties_X7_isWithin : GoodIn wsX7_parties wsX7_isWithin := goodIn_r _ [7] (by decide +kernel) (by decide +kernel)
set_option maxRecDepth 20000 in
theorem gX7_parties_X7_isWithin : GoodIn wsX7_parties (va_wsS RX7 82 yX7_isWithin wsX7_isWithin) := goodIn_app (goodIn_of _ (by decide +kernel)) ggX7_parties_X7_isWithin
set_option maxRecDepth 20000 in
theorem ggX7_parties_X7_isDone : GoodIn wsX7_parties wsX7_isDone := goodIn_r _ [11, 12, 13, 14, 15, 16, 17, 18, 19, 20, 21, 22, 23] (by decide +kernel) (by decide +kernel)
set_option maxRecDepth 20000 in
theorem gX7_parties_X7_isDone : GoodIn wsX7_parties (wsV RX7 86 RX7 yX7_isDone wsX7_isDone) := goodIn_app (goodIn_of _ (by decide +kernel)) ggX7_parties_X7_isDone
theorem dX7_parties_0 : decode cX7_parties 0 = .ok (.iload_n 1, 1) := by decide +kernel
theorem dX7_parties_1 : decode cX7_parties 1 = .ok (.iconst 2, 1) := by decide +kernel
theorem dX7_parties_2 : decode cX7_parties 2 = .ok (.iconst 4, 1) := by decide +kernel
theorem dX7_parties_3 : decode cX7_parties 3 = .ok (.invokestatic 82, 3) := by decide +kernel
theorem dX7_parties_6 : decode cX7_parties 6 = .ok (.ifCond .ne 9, 3) := by decide +kernel
theorem dX7_parties_9 : decode cX7_parties 9 = .ok (.aload_n 0, 1) := by decide +kernel
theorem dX7_parties_10 : decode cX7_parties 10 = .ok (.iconst 1, 1) := by decide +kernel
theorem dX7_parties_11 : decode cX7_parties 11 = .ok (.invokevirtual 86, 3) := by decide +kernel
theorem dX7_parties_14 : decode cX7_parties 14 = .ok (.ireturn, 1) := by decide +kernel
theorem dX7_parties_15 : decode cX7_parties 15 = .ok (.aload_n 0, 1) := by decide +kernel
theorem dX7_parties_16 : decode cX7_parties 16 = .ok (.getfield 26, 3) := by decide +kernel
theorem dX7_parties_19 : decode cX7_parties 19 = .ok (.getfield 123, 3) := by decide +kernel
theorem dX7_parties_22 : decode cX7_parties 22 = .ok (.ifCond .gt 13, 3) := by decide +kernel
theorem dX7_parties_25 : decode cX7_parties 25 = .ok (.aload_n 0, 1) := by decide +kernel
theorem dX7_parties_26 : decode cX7_parties 26 = .ok (.getfield 47, 3) := by decide +kernel
theorem dX7_parties_29 : decode cX7_parties 29 = .ok (.getfield 126, 3) := by decide +kernel
theorem dX7_parties_32 : decode cX7_parties 32 = .ok (.ifCond .eq 10, 3) := by decide +kernel
theorem dX7_parties_35 : decode cX7_parties 35 = .ok (.aload_n 0, 1) := by decide +kernel
theorem dX7_parties_36 : decode cX7_parties 36 = .ok (.bipush 7, 2) := by decide +kernel
theorem dX7_parties_38 : decode cX7_parties 38 = .ok (.invokevirtual 86, 3) := by decide +kernel
theorem dX7_parties_41 : decode cX7_parties 41 = .ok (.ireturn, 1) := by decide +kernel
theorem dX7_parties_42 : decode cX7_parties 42 = .ok (.aload_n 0, 1) := by decide +kernel
theorem dX7_parties_43 : decode cX7_parties 43 = .ok (.iload_n 1, 1) := by decide +kernel
theorem dX7_parties_44 : decode cX7_parties 44 = .ok (.putfield 64, 3) := by decide +kernel
theorem dX7_parties_47 : decode cX7_parties 47 = .ok (.aload_n 0, 1) := by decide +kernel
theorem dX7_parties_48 : decode cX7_parties 48 = .ok (.iconst 0, 1) := by decide +kernel
theorem dX7_parties_49 : decode cX7_parties 49 = .ok (.invokevirtual 86, 3) := by decide +kernel
theorem dX7_parties_52 : decode cX7_parties 52 = .ok (.ireturn, 1) := by decide +kernel
set_option maxRecDepth 20000 in
theorem ggX7_poll_X7_isLayer : GoodIn wsX7_poll wsX7_isLayer := goodIn_r _ [5, 6, 7, 4, 8] (by decide +kernel) (by decide +kernel)
set_option maxRecDepth 20000 in
theorem gX7_poll_X7_isLayer : GoodIn wsX7_poll (va_wsS RX7 130 yX7_isLayer wsX7_isLayer) := goodIn_app (goodIn_of _ (by decide +kernel)) ggX7_poll_X7_isLayer
set_option maxRecDepth 20000 in
theorem ggX7_poll_X7_isWithin : GoodIn wsX7_poll wsX7_isWithin := goodIn_r _ [8] (by decide +kernel) (by decide +kernel)
set_option maxRecDepth 20000 in
theorem gX7_poll_X7_isWithin : GoodIn wsX7_poll (va_wsS RX7 82 yX7_isWithin wsX7_isWithin) := goodIn_app (goodIn_of _ (by decide +kernel)) ggX7_poll_X7_isWithin
set_option maxRecDepth 20000 in
theorem ggX7_poll_X7_refused : GoodIn wsX7_poll wsX7_refused := goodIn_r _ [12, 13, 26, 27, 28, 29, 30, 31, 32, 33, 34, 35, 36] (by decide +kernel) (by decide +kernel)
set_option maxRecDepth 20000 in
theorem gX7_poll_X7_refused : GoodIn wsX7_poll (wsV RX7 101 RX7 yX7_refused wsX7_refused) := goodIn_app (goodIn_of _ (by decide +kernel)) ggX7_poll_X7_refused
set_option maxRecDepth 20000 in
theorem ggX7_poll_X4_add : GoodIn wsX7_poll wsX4_add := goodIn_r _ [17, 18, 19, 20, 21, 37, 38, 39, 40, 41, 42, 43, 44] (by decide +kernel) (by decide +kernel)
set_option maxRecDepth 20000 in
theorem gX7_poll_X4_add_n134 : GoodIn wsX7_poll (wsX4_add) := ggX7_poll_X4_add
set_option maxRecDepth 20000 in
theorem ggX7_poll_X7_answered : GoodIn wsX7_poll wsX7_answered := goodIn_r _ [25, 13, 26, 27, 28, 29, 30, 31, 32, 33, 34, 35, 36] (by decide +kernel) (by decide +kernel)
set_option maxRecDepth 20000 in
theorem gX7_poll_X7_answered : GoodIn wsX7_poll (wsV RX7 137 RX7 yX7_answered wsX7_answered) := goodIn_app (goodIn_of _ (by decide +kernel)) ggX7_poll_X7_answered
theorem dX7_poll_0 : decode cX7_poll 0 = .ok (.iload_n 1, 1) := by decide +kernel
theorem dX7_poll_1 : decode cX7_poll 1 = .ok (.invokestatic 130, 3) := by decide +kernel
theorem dX7_poll_4 : decode cX7_poll 4 = .ok (.ifCond .eq 14, 3) := by decide +kernel
theorem dX7_poll_7 : decode cX7_poll 7 = .ok (.iload_n 2, 1) := by decide +kernel
theorem dX7_poll_8 : decode cX7_poll 8 = .ok (.iconst 1, 1) := by decide +kernel
theorem dX7_poll_9 : decode cX7_poll 9 = .ok (.sipush 2000, 3) := by decide +kernel
theorem dX7_poll_12 : decode cX7_poll 12 = .ok (.invokestatic 82, 3) := by decide +kernel
theorem dX7_poll_15 : decode cX7_poll 15 = .ok (.ifCond .ne 9, 3) := by decide +kernel
theorem dX7_poll_18 : decode cX7_poll 18 = .ok (.aload_n 0, 1) := by decide +kernel
theorem dX7_poll_19 : decode cX7_poll 19 = .ok (.iconst 1, 1) := by decide +kernel
theorem dX7_poll_20 : decode cX7_poll 20 = .ok (.invokevirtual 101, 3) := by decide +kernel
theorem dX7_poll_23 : decode cX7_poll 23 = .ok (.ireturn, 1) := by decide +kernel
theorem dX7_poll_24 : decode cX7_poll 24 = .ok (.aload_n 0, 1) := by decide +kernel
theorem dX7_poll_25 : decode cX7_poll 25 = .ok (.getfield 19, 3) := by decide +kernel
theorem dX7_poll_28 : decode cX7_poll 28 = .ok (.getfield 133, 3) := by decide +kernel
theorem dX7_poll_31 : decode cX7_poll 31 = .ok (.bipush 40, 2) := by decide +kernel
theorem dX7_poll_33 : decode cX7_poll 33 = .ok (.if_icmp .lt 10, 3) := by decide +kernel
theorem dX7_poll_36 : decode cX7_poll 36 = .ok (.aload_n 0, 1) := by decide +kernel
theorem dX7_poll_37 : decode cX7_poll 37 = .ok (.bipush 7, 2) := by decide +kernel
theorem dX7_poll_39 : decode cX7_poll 39 = .ok (.invokevirtual 101, 3) := by decide +kernel
theorem dX7_poll_42 : decode cX7_poll 42 = .ok (.ireturn, 1) := by decide +kernel
theorem dX7_poll_43 : decode cX7_poll 43 = .ok (.aload_n 0, 1) := by decide +kernel
theorem dX7_poll_44 : decode cX7_poll 44 = .ok (.aload_n 0, 1) := by decide +kernel
theorem dX7_poll_45 : decode cX7_poll 45 = .ok (.getfield 19, 3) := by decide +kernel
theorem dX7_poll_48 : decode cX7_poll 48 = .ok (.iload_n 1, 1) := by decide +kernel
theorem dX7_poll_49 : decode cX7_poll 49 = .ok (.iload_n 2, 1) := by decide +kernel
theorem dX7_poll_50 : decode cX7_poll 50 = .ok (.invokevirtual 134, 3) := by decide +kernel
theorem dX7_poll_53 : decode cX7_poll 53 = .ok (.invokevirtual 137, 3) := by decide +kernel
theorem dX7_poll_56 : decode cX7_poll 56 = .ok (.ireturn, 1) := by decide +kernel
set_option maxRecDepth 20000 in
theorem ggX7_draw_X7_isLayer : GoodIn wsX7_draw wsX7_isLayer := goodIn_r _ [5, 6, 7, 4, 8] (by decide +kernel) (by decide +kernel)
set_option maxRecDepth 20000 in
theorem gX7_draw_X7_isLayer : GoodIn wsX7_draw (va_wsS RX7 130 yX7_isLayer wsX7_isLayer) := goodIn_app (goodIn_of _ (by decide +kernel)) ggX7_draw_X7_isLayer
set_option maxRecDepth 20000 in
theorem ggX7_draw_X7_isDone : GoodIn wsX7_draw wsX7_isDone := goodIn_r _ [12, 13, 29, 30, 31, 32, 33, 34, 35, 36, 37, 38, 39] (by decide +kernel) (by decide +kernel)
set_option maxRecDepth 20000 in
theorem gX7_draw_X7_isDone : GoodIn wsX7_draw (wsV RX7 86 RX7 yX7_isDone wsX7_isDone) := goodIn_app (goodIn_of _ (by decide +kernel)) ggX7_draw_X7_isDone
set_option maxRecDepth 20000 in
theorem ggX7_draw_X4_takeLots : GoodIn wsX7_draw wsX4_takeLots := goodIn_r _ [17, 18, 19, 20, 21, 22, 23, 24, 25, 26, 27, 28, 40, 41, 42, 43, 44, 45, 46, 47] (by decide +kernel) (by decide +kernel)
set_option maxRecDepth 20000 in
theorem gX7_draw_X4_takeLots_n144 : GoodIn wsX7_draw (wsX4_takeLots) := ggX7_draw_X4_takeLots
theorem dX7_draw_0 : decode cX7_draw 0 = .ok (.iload_n 1, 1) := by decide +kernel
theorem dX7_draw_1 : decode cX7_draw 1 = .ok (.invokestatic 130, 3) := by decide +kernel
theorem dX7_draw_4 : decode cX7_draw 4 = .ok (.ifCond .eq 25, 3) := by decide +kernel
theorem dX7_draw_7 : decode cX7_draw 7 = .ok (.iload_n 2, 1) := by decide +kernel
theorem dX7_draw_8 : decode cX7_draw 8 = .ok (.iconst 1, 1) := by decide +kernel
theorem dX7_draw_9 : decode cX7_draw 9 = .ok (.if_icmp .lt 20, 3) := by decide +kernel
theorem dX7_draw_12 : decode cX7_draw 12 = .ok (.iload_n 3, 1) := by decide +kernel
theorem dX7_draw_13 : decode cX7_draw 13 = .ok (.ifCond .lt 16, 3) := by decide +kernel
theorem dX7_draw_16 : decode cX7_draw 16 = .ok (.iload_n 2, 1) := by decide +kernel
theorem dX7_draw_17 : decode cX7_draw 17 = .ok (.aload_n 0, 1) := by decide +kernel
theorem dX7_draw_18 : decode cX7_draw 18 = .ok (.getfield 19, 3) := by decide +kernel
theorem dX7_draw_21 : decode cX7_draw 21 = .ok (.getfield 140, 3) := by decide +kernel
theorem dX7_draw_24 : decode cX7_draw 24 = .ok (.iload_n 1, 1) := by decide +kernel
theorem dX7_draw_25 : decode cX7_draw 25 = .ok (.iaload, 1) := by decide +kernel
theorem dX7_draw_26 : decode cX7_draw 26 = .ok (.if_icmp .le 9, 3) := by decide +kernel
theorem dX7_draw_29 : decode cX7_draw 29 = .ok (.aload_n 0, 1) := by decide +kernel
theorem dX7_draw_30 : decode cX7_draw 30 = .ok (.iconst 1, 1) := by decide +kernel
theorem dX7_draw_31 : decode cX7_draw 31 = .ok (.invokevirtual 86, 3) := by decide +kernel
theorem dX7_draw_34 : decode cX7_draw 34 = .ok (.ireturn, 1) := by decide +kernel
theorem dX7_draw_35 : decode cX7_draw 35 = .ok (.aload_n 0, 1) := by decide +kernel
theorem dX7_draw_36 : decode cX7_draw 36 = .ok (.getfield 19, 3) := by decide +kernel
theorem dX7_draw_39 : decode cX7_draw 39 = .ok (.iload_n 1, 1) := by decide +kernel
theorem dX7_draw_40 : decode cX7_draw 40 = .ok (.iload_n 2, 1) := by decide +kernel
theorem dX7_draw_41 : decode cX7_draw 41 = .ok (.iload_n 3, 1) := by decide +kernel
theorem dX7_draw_42 : decode cX7_draw 42 = .ok (.invokevirtual 144, 3) := by decide +kernel
theorem dX7_draw_45 : decode cX7_draw 45 = .ok (.aload_n 0, 1) := by decide +kernel
theorem dX7_draw_46 : decode cX7_draw 46 = .ok (.iconst 0, 1) := by decide +kernel
theorem dX7_draw_47 : decode cX7_draw 47 = .ok (.invokevirtual 86, 3) := by decide +kernel
theorem dX7_draw_50 : decode cX7_draw 50 = .ok (.ireturn, 1) := by decide +kernel
set_option maxRecDepth 20000 in
theorem ggX7_told_X7_isPoll : GoodIn wsX7_told wsX7_isPoll := goodIn_r _ [6, 1, 7, 8, 5, 9, 19, 20, 21, 22, 23, 24, 25, 26, 27, 28, 29, 30, 31, 32, 33, 34, 35, 36, 37] (by decide +kernel) (by decide +kernel)
set_option maxRecDepth 20000 in
theorem gX7_told_X7_isPoll : GoodIn wsX7_told (wsV RX7 147 RX7 yX7_isPoll wsX7_isPoll) := goodIn_app (goodIn_of _ (by decide +kernel)) ggX7_told_X7_isPoll
set_option maxRecDepth 20000 in
theorem ggX7_told_X7_isWithin : GoodIn wsX7_told wsX7_isWithin := goodIn_r _ [9] (by decide +kernel) (by decide +kernel)
set_option maxRecDepth 20000 in
theorem gX7_told_X7_isWithin : GoodIn wsX7_told (va_wsS RX7 82 yX7_isWithin wsX7_isWithin) := goodIn_app (goodIn_of _ (by decide +kernel)) ggX7_told_X7_isWithin
set_option maxRecDepth 20000 in
theorem ggX7_told_X7_refused : GoodIn wsX7_told wsX7_refused := goodIn_r _ [13, 14, 19, 20, 21, 22, 23, 24, 25, 26, 27, 28, 29] (by decide +kernel) (by decide +kernel)
set_option maxRecDepth 20000 in
theorem gX7_told_X7_refused : GoodIn wsX7_told (wsV RX7 101 RX7 yX7_refused wsX7_refused) := goodIn_app (goodIn_of _ (by decide +kernel)) ggX7_told_X7_refused
set_option maxRecDepth 20000 in
theorem ggX7_told_X7_answered : GoodIn wsX7_told wsX7_answered := goodIn_r _ [18, 14, 19, 20, 21, 22, 23, 24, 25, 26, 27, 28, 29] (by decide +kernel) (by decide +kernel)
set_option maxRecDepth 20000 in
theorem gX7_told_X7_answered : GoodIn wsX7_told (wsV RX7 137 RX7 yX7_answered wsX7_answered) := goodIn_app (goodIn_of _ (by decide +kernel)) ggX7_told_X7_answered
theorem dX7_told_0 : decode cX7_told 0 = .ok (.aload_n 0, 1) := by decide +kernel
theorem dX7_told_1 : decode cX7_told 1 = .ok (.iload_n 1, 1) := by decide +kernel
theorem dX7_told_2 : decode cX7_told 2 = .ok (.invokevirtual 147, 3) := by decide +kernel
theorem dX7_told_5 : decode cX7_told 5 = .ok (.ifCond .eq 12, 3) := by decide +kernel
theorem dX7_told_8 : decode cX7_told 8 = .ok (.iload_n 2, 1) := by decide +kernel
theorem dX7_told_9 : decode cX7_told 9 = .ok (.iconst 0, 1) := by decide +kernel
theorem dX7_told_10 : decode cX7_told 10 = .ok (.iconst 2, 1) := by decide +kernel
theorem dX7_told_11 : decode cX7_told 11 = .ok (.invokestatic 82, 3) := by decide +kernel
theorem dX7_told_14 : decode cX7_told 14 = .ok (.ifCond .ne 9, 3) := by decide +kernel
theorem dX7_told_17 : decode cX7_told 17 = .ok (.aload_n 0, 1) := by decide +kernel
theorem dX7_told_18 : decode cX7_told 18 = .ok (.iconst 1, 1) := by decide +kernel
theorem dX7_told_19 : decode cX7_told 19 = .ok (.invokevirtual 101, 3) := by decide +kernel
theorem dX7_told_22 : decode cX7_told 22 = .ok (.ireturn, 1) := by decide +kernel
theorem dX7_told_23 : decode cX7_told 23 = .ok (.iload_n 2, 1) := by decide +kernel
theorem dX7_told_24 : decode cX7_told 24 = .ok (.ifCond .ne 17, 3) := by decide +kernel
theorem dX7_told_27 : decode cX7_told 27 = .ok (.aload_n 0, 1) := by decide +kernel
theorem dX7_told_28 : decode cX7_told 28 = .ok (.aload_n 0, 1) := by decide +kernel
theorem dX7_told_29 : decode cX7_told 29 = .ok (.getfield 19, 3) := by decide +kernel
theorem dX7_told_32 : decode cX7_told 32 = .ok (.getfield 150, 3) := by decide +kernel
theorem dX7_told_35 : decode cX7_told 35 = .ok (.iload_n 1, 1) := by decide +kernel
theorem dX7_told_36 : decode cX7_told 36 = .ok (.iaload, 1) := by decide +kernel
theorem dX7_told_37 : decode cX7_told 37 = .ok (.invokevirtual 137, 3) := by decide +kernel
theorem dX7_told_40 : decode cX7_told 40 = .ok (.ireturn, 1) := by decide +kernel
theorem dX7_told_41 : decode cX7_told 41 = .ok (.iload_n 2, 1) := by decide +kernel
theorem dX7_told_42 : decode cX7_told 42 = .ok (.iconst 1, 1) := by decide +kernel
theorem dX7_told_43 : decode cX7_told 43 = .ok (.if_icmp .ne 17, 3) := by decide +kernel
theorem dX7_told_46 : decode cX7_told 46 = .ok (.aload_n 0, 1) := by decide +kernel
theorem dX7_told_47 : decode cX7_told 47 = .ok (.aload_n 0, 1) := by decide +kernel
theorem dX7_told_48 : decode cX7_told 48 = .ok (.getfield 19, 3) := by decide +kernel
theorem dX7_told_51 : decode cX7_told 51 = .ok (.getfield 153, 3) := by decide +kernel
theorem dX7_told_54 : decode cX7_told 54 = .ok (.iload_n 1, 1) := by decide +kernel
theorem dX7_told_55 : decode cX7_told 55 = .ok (.iaload, 1) := by decide +kernel
theorem dX7_told_56 : decode cX7_told 56 = .ok (.invokevirtual 137, 3) := by decide +kernel
theorem dX7_told_59 : decode cX7_told 59 = .ok (.ireturn, 1) := by decide +kernel
theorem dX7_told_60 : decode cX7_told 60 = .ok (.aload_n 0, 1) := by decide +kernel
theorem dX7_told_61 : decode cX7_told 61 = .ok (.aload_n 0, 1) := by decide +kernel
theorem dX7_told_62 : decode cX7_told 62 = .ok (.getfield 19, 3) := by decide +kernel
theorem dX7_told_65 : decode cX7_told 65 = .ok (.getfield 156, 3) := by decide +kernel
theorem dX7_told_68 : decode cX7_told 68 = .ok (.iload_n 1, 1) := by decide +kernel
theorem dX7_told_69 : decode cX7_told 69 = .ok (.baload, 1) := by decide +kernel
theorem dX7_told_70 : decode cX7_told 70 = .ok (.ifCond .eq 7, 3) := by decide +kernel
theorem dX7_told_73 : decode cX7_told 73 = .ok (.iconst 1, 1) := by decide +kernel
theorem dX7_told_74 : decode cX7_told 74 = .ok (.goto 4, 3) := by decide +kernel
theorem dX7_told_77 : decode cX7_told 77 = .ok (.iconst 0, 1) := by decide +kernel
theorem dX7_told_78 : decode cX7_told 78 = .ok (.invokevirtual 137, 3) := by decide +kernel
theorem dX7_told_81 : decode cX7_told 81 = .ok (.ireturn, 1) := by decide +kernel
set_option maxRecDepth 20000 in
theorem ggX7_chance_X7_isPoll : GoodIn wsX7_chance wsX7_isPoll := goodIn_r _ [7, 2, 8, 9, 6, 10, 40, 41, 42, 43, 44, 45, 46, 47, 48, 49, 50, 51, 52, 53, 54, 55, 56, 57, 58] (by decide +kernel) (by decide +kernel)
set_option maxRecDepth 20000 in
theorem gX7_chance_X7_isPoll : GoodIn wsX7_chance (wsV RX7 147 RX7 yX7_isPoll wsX7_isPoll) := goodIn_app (goodIn_of _ (by decide +kernel)) ggX7_chance_X7_isPoll
set_option maxRecDepth 20000 in
theorem ggX7_chance_X7_refused : GoodIn wsX7_chance wsX7_refused := goodIn_r _ [14, 15, 40, 41, 42, 43, 44, 45, 46, 47, 48, 49, 50] (by decide +kernel) (by decide +kernel)
set_option maxRecDepth 20000 in
theorem gX7_chance_X7_refused : GoodIn wsX7_chance (wsV RX7 101 RX7 yX7_refused wsX7_refused) := goodIn_app (goodIn_of _ (by decide +kernel)) ggX7_chance_X7_refused
set_option maxRecDepth 20000 in
theorem ggX7_chance_X0_clear : GoodIn wsX7_chance wsX0_clear := goodIn_r _ [19, 20, 21, 59, 60] (by decide +kernel) (by decide +kernel)
set_option maxRecDepth 20000 in
theorem gX7_chance_X0_clear_n160 : GoodIn wsX7_chance (wsX0_clear) := ggX7_chance_X0_clear
set_option maxRecDepth 20000 in
theorem ggX7_chance_X0_put : GoodIn wsX7_chance wsX0_put := goodIn_r _ [24, 25, 26, 27, 28, 20, 21, 29, 30, 17, 31, 32, 16, 18, 19, 59, 60] (by decide +kernel) (by decide +kernel)
set_option maxRecDepth 20000 in
theorem gX7_chance_X0_put_n172 : GoodIn wsX7_chance (wsX0_put) := ggX7_chance_X0_put
set_option maxRecDepth 20000 in
theorem ggX7_chance_X0_sign : GoodIn wsX7_chance wsX0_sign := goodIn_r _ [35, 20, 59, 60] (by decide +kernel) (by decide +kernel)
set_option maxRecDepth 20000 in
theorem gX7_chance_X0_sign_n175 : GoodIn wsX7_chance (wsX0_sign) := ggX7_chance_X0_sign
set_option maxRecDepth 20000 in
theorem ggX7_chance_X7_answered : GoodIn wsX7_chance wsX7_answered := goodIn_r _ [39, 15, 40, 41, 42, 43, 44, 45, 46, 47, 48, 49, 50] (by decide +kernel) (by decide +kernel)
set_option maxRecDepth 20000 in
theorem gX7_chance_X7_answered : GoodIn wsX7_chance (wsV RX7 137 RX7 yX7_answered wsX7_answered) := goodIn_app (goodIn_of _ (by decide +kernel)) ggX7_chance_X7_answered
theorem dX7_chance_0 : decode cX7_chance 0 = .ok (.aload_n 0, 1) := by decide +kernel
theorem dX7_chance_1 : decode cX7_chance 1 = .ok (.iload_n 1, 1) := by decide +kernel
theorem dX7_chance_2 : decode cX7_chance 2 = .ok (.invokevirtual 147, 3) := by decide +kernel
theorem dX7_chance_5 : decode cX7_chance 5 = .ok (.ifCond .ne 9, 3) := by decide +kernel
theorem dX7_chance_8 : decode cX7_chance 8 = .ok (.aload_n 0, 1) := by decide +kernel
theorem dX7_chance_9 : decode cX7_chance 9 = .ok (.iconst 1, 1) := by decide +kernel
theorem dX7_chance_10 : decode cX7_chance 10 = .ok (.invokevirtual 101, 3) := by decide +kernel
theorem dX7_chance_13 : decode cX7_chance 13 = .ok (.ireturn, 1) := by decide +kernel
theorem dX7_chance_14 : decode cX7_chance 14 = .ok (.aload_n 0, 1) := by decide +kernel
theorem dX7_chance_15 : decode cX7_chance 15 = .ok (.getfield 54, 3) := by decide +kernel
theorem dX7_chance_18 : decode cX7_chance 18 = .ok (.invokevirtual 160, 3) := by decide +kernel
theorem dX7_chance_21 : decode cX7_chance 21 = .ok (.aload_n 0, 1) := by decide +kernel
theorem dX7_chance_22 : decode cX7_chance 22 = .ok (.getfield 19, 3) := by decide +kernel
theorem dX7_chance_25 : decode cX7_chance 25 = .ok (.getfield 163, 3) := by decide +kernel
theorem dX7_chance_28 : decode cX7_chance 28 = .ok (.iload_n 1, 1) := by decide +kernel
theorem dX7_chance_29 : decode cX7_chance 29 = .ok (.baload, 1) := by decide +kernel
theorem dX7_chance_30 : decode cX7_chance 30 = .ok (.ifCond .eq 40, 3) := by decide +kernel
theorem dX7_chance_33 : decode cX7_chance 33 = .ok (.aload_n 0, 1) := by decide +kernel
theorem dX7_chance_34 : decode cX7_chance 34 = .ok (.getfield 19, 3) := by decide +kernel
theorem dX7_chance_37 : decode cX7_chance 37 = .ok (.getfield 150, 3) := by decide +kernel
theorem dX7_chance_40 : decode cX7_chance 40 = .ok (.iload_n 1, 1) := by decide +kernel
theorem dX7_chance_41 : decode cX7_chance 41 = .ok (.iaload, 1) := by decide +kernel
theorem dX7_chance_42 : decode cX7_chance 42 = .ok (.istore_n 2, 1) := by decide +kernel
theorem dX7_chance_43 : decode cX7_chance 43 = .ok (.aload_n 0, 1) := by decide +kernel
theorem dX7_chance_44 : decode cX7_chance 44 = .ok (.getfield 54, 3) := by decide +kernel
theorem dX7_chance_47 : decode cX7_chance 47 = .ok (.aload_n 0, 1) := by decide +kernel
theorem dX7_chance_48 : decode cX7_chance 48 = .ok (.getfield 19, 3) := by decide +kernel
theorem dX7_chance_51 : decode cX7_chance 51 = .ok (.getfield 166, 3) := by decide +kernel
theorem dX7_chance_54 : decode cX7_chance 54 = .ok (.iload_n 2, 1) := by decide +kernel
theorem dX7_chance_55 : decode cX7_chance 55 = .ok (.iaload, 1) := by decide +kernel
theorem dX7_chance_56 : decode cX7_chance 56 = .ok (.i2l, 1) := by decide +kernel
theorem dX7_chance_57 : decode cX7_chance 57 = .ok (.aload_n 0, 1) := by decide +kernel
theorem dX7_chance_58 : decode cX7_chance 58 = .ok (.getfield 19, 3) := by decide +kernel
theorem dX7_chance_61 : decode cX7_chance 61 = .ok (.getfield 169, 3) := by decide +kernel
theorem dX7_chance_64 : decode cX7_chance 64 = .ok (.iload_n 2, 1) := by decide +kernel
theorem dX7_chance_65 : decode cX7_chance 65 = .ok (.iaload, 1) := by decide +kernel
theorem dX7_chance_66 : decode cX7_chance 66 = .ok (.i2l, 1) := by decide +kernel
theorem dX7_chance_67 : decode cX7_chance 67 = .ok (.invokevirtual 172, 3) := by decide +kernel
theorem dX7_chance_70 : decode cX7_chance 70 = .ok (.aload_n 0, 1) := by decide +kernel
theorem dX7_chance_71 : decode cX7_chance 71 = .ok (.aload_n 0, 1) := by decide +kernel
theorem dX7_chance_72 : decode cX7_chance 72 = .ok (.getfield 54, 3) := by decide +kernel
theorem dX7_chance_75 : decode cX7_chance 75 = .ok (.invokevirtual 175, 3) := by decide +kernel
theorem dX7_chance_78 : decode cX7_chance 78 = .ok (.invokevirtual 137, 3) := by decide +kernel
theorem dX7_chance_81 : decode cX7_chance 81 = .ok (.ireturn, 1) := by decide +kernel
set_option maxRecDepth 20000 in
theorem ggX7_sheet_X7_whyNoSheet : GoodIn wsX7_sheet wsX7_whyNoSheet := goodIn_r _ [9, 1, 4, 10, 11, 8, 12, 13, 14, 15, 16, 17, 18, 19, 2, 20, 21, 22, 23, 24, 25, 26, 3, 27, 28, 29, 30, 31, 32, 33, 34, 35, 36, 37, 38, 39, 40, 41, 42, 43, 44, 70, 71, 72, 73, 74, 75, 76, 77, 78, 79, 80, 89, 90, 91, 92, 93, 94, 95, 96, 97, 81, 82, 83, 84, 85, 86, 87, 88, 98, 99, 100] (by decide +kernel) (by decide +kernel)
set_option maxRecDepth 20000 in
theorem gX7_sheet_X7_whyNoSheet : GoodIn wsX7_sheet (wsV RX7 179 RX7 yX7_whyNoSheet wsX7_whyNoSheet) := goodIn_app (goodIn_of _ (by decide +kernel)) ggX7_sheet_X7_whyNoSheet
set_option maxRecDepth 20000 in
theorem ggX7_sheet_X7_refused : GoodIn wsX7_sheet wsX7_refused := goodIn_r _ [48, 49, 70, 71, 72, 73, 74, 75, 76, 77, 78, 79, 80] (by decide +kernel) (by decide +kernel)
set_option maxRecDepth 20000 in
theorem gX7_sheet_X7_refused : GoodIn wsX7_sheet (wsV RX7 101 RX7 yX7_refused wsX7_refused) := goodIn_app (goodIn_of _ (by decide +kernel)) ggX7_sheet_X7_refused
set_option maxRecDepth 20000 in
theorem ggX7_sheet_X5_add : GoodIn wsX7_sheet wsX5_add := goodIn_r _ [53, 54, 55, 56, 57, 58, 59, 60, 61, 41, 28, 42, 43, 44, 62, 63, 64, 51, 65, 89, 90, 91, 92, 93, 94, 95, 96, 97, 98, 99, 100] (by decide +kernel) (by decide +kernel)
set_option maxRecDepth 20000 in
theorem gX7_sheet_X5_add_n183 : GoodIn wsX7_sheet (wsX5_add) := ggX7_sheet_X5_add
set_option maxRecDepth 20000 in
theorem ggX7_sheet_X7_answered : GoodIn wsX7_sheet wsX7_answered := goodIn_r _ [69, 49, 70, 71, 72, 73, 74, 75, 76, 77, 78, 79, 80] (by decide +kernel) (by decide +kernel)
set_option maxRecDepth 20000 in
theorem gX7_sheet_X7_answered : GoodIn wsX7_sheet (wsV RX7 137 RX7 yX7_answered wsX7_answered) := goodIn_app (goodIn_of _ (by decide +kernel)) ggX7_sheet_X7_answered
theorem dX7_sheet_0 : decode cX7_sheet 0 = .ok (.aload_n 0, 1) := by decide +kernel
theorem dX7_sheet_1 : decode cX7_sheet 1 = .ok (.iload_n 1, 1) := by decide +kernel
theorem dX7_sheet_2 : decode cX7_sheet 2 = .ok (.iload_n 2, 1) := by decide +kernel
theorem dX7_sheet_3 : decode cX7_sheet 3 = .ok (.iload_n 3, 1) := by decide +kernel
theorem dX7_sheet_4 : decode cX7_sheet 4 = .ok (.invokevirtual 179, 3) := by decide +kernel
theorem dX7_sheet_7 : decode cX7_sheet 7 = .ok (.istore 4, 2) := by decide +kernel
theorem dX7_sheet_9 : decode cX7_sheet 9 = .ok (.iload 4, 2) := by decide +kernel
theorem dX7_sheet_11 : decode cX7_sheet 11 = .ok (.ifCond .eq 10, 3) := by decide +kernel
theorem dX7_sheet_14 : decode cX7_sheet 14 = .ok (.aload_n 0, 1) := by decide +kernel
theorem dX7_sheet_15 : decode cX7_sheet 15 = .ok (.iload 4, 2) := by decide +kernel
theorem dX7_sheet_17 : decode cX7_sheet 17 = .ok (.invokevirtual 101, 3) := by decide +kernel
theorem dX7_sheet_20 : decode cX7_sheet 20 = .ok (.ireturn, 1) := by decide +kernel
theorem dX7_sheet_21 : decode cX7_sheet 21 = .ok (.aload_n 0, 1) := by decide +kernel
theorem dX7_sheet_22 : decode cX7_sheet 22 = .ok (.aload_n 0, 1) := by decide +kernel
theorem dX7_sheet_23 : decode cX7_sheet 23 = .ok (.getfield 26, 3) := by decide +kernel
theorem dX7_sheet_26 : decode cX7_sheet 26 = .ok (.iload_n 1, 1) := by decide +kernel
theorem dX7_sheet_27 : decode cX7_sheet 27 = .ok (.aload_n 0, 1) := by decide +kernel
theorem dX7_sheet_28 : decode cX7_sheet 28 = .ok (.getfield 19, 3) := by decide +kernel
theorem dX7_sheet_31 : decode cX7_sheet 31 = .ok (.getfield 153, 3) := by decide +kernel
theorem dX7_sheet_34 : decode cX7_sheet 34 = .ok (.iload_n 1, 1) := by decide +kernel
theorem dX7_sheet_35 : decode cX7_sheet 35 = .ok (.iaload, 1) := by decide +kernel
theorem dX7_sheet_36 : decode cX7_sheet 36 = .ok (.aload_n 0, 1) := by decide +kernel
theorem dX7_sheet_37 : decode cX7_sheet 37 = .ok (.getfield 12, 3) := by decide +kernel
theorem dX7_sheet_40 : decode cX7_sheet 40 = .ok (.iload_n 2, 1) := by decide +kernel
theorem dX7_sheet_41 : decode cX7_sheet 41 = .ok (.iload_n 3, 1) := by decide +kernel
theorem dX7_sheet_42 : decode cX7_sheet 42 = .ok (.aload_n 0, 1) := by decide +kernel
theorem dX7_sheet_43 : decode cX7_sheet 43 = .ok (.getfield 64, 3) := by decide +kernel
theorem dX7_sheet_46 : decode cX7_sheet 46 = .ok (.invokevirtual 183, 3) := by decide +kernel
theorem dX7_sheet_49 : decode cX7_sheet 49 = .ok (.invokevirtual 137, 3) := by decide +kernel
theorem dX7_sheet_52 : decode cX7_sheet 52 = .ok (.ireturn, 1) := by decide +kernel
set_option maxRecDepth 20000 in
theorem ggX7_good_X7_isSheet : GoodIn wsX7_good wsX7_isSheet := goodIn_r _ [6, 1, 7, 8, 5, 9, 19, 20, 21, 22, 23, 24, 25, 26, 27, 28, 29, 30, 31, 32, 33, 34, 35, 36, 37, 38] (by decide +kernel) (by decide +kernel)
set_option maxRecDepth 20000 in
theorem gX7_good_X7_isSheet : GoodIn wsX7_good (wsV RX7 186 RX7 yX7_isSheet wsX7_isSheet) := goodIn_app (goodIn_of _ (by decide +kernel)) ggX7_good_X7_isSheet
set_option maxRecDepth 20000 in
theorem ggX7_good_X7_refused : GoodIn wsX7_good wsX7_refused := goodIn_r _ [13, 14, 19, 20, 21, 22, 23, 24, 25, 26, 27, 28, 29] (by decide +kernel) (by decide +kernel)
set_option maxRecDepth 20000 in
theorem gX7_good_X7_refused : GoodIn wsX7_good (wsV RX7 101 RX7 yX7_refused wsX7_refused) := goodIn_app (goodIn_of _ (by decide +kernel)) ggX7_good_X7_refused
set_option maxRecDepth 20000 in
theorem ggX7_good_X7_answered : GoodIn wsX7_good wsX7_answered := goodIn_r _ [18, 14, 19, 20, 21, 22, 23, 24, 25, 26, 27, 28, 29] (by decide +kernel) (by decide +kernel)
set_option maxRecDepth 20000 in
theorem gX7_good_X7_answered : GoodIn wsX7_good (wsV RX7 137 RX7 yX7_answered wsX7_answered) := goodIn_app (goodIn_of _ (by decide +kernel)) ggX7_good_X7_answered
theorem dX7_good_0 : decode cX7_good 0 = .ok (.aload_n 0, 1) := by decide +kernel
theorem dX7_good_1 : decode cX7_good 1 = .ok (.iload_n 1, 1) := by decide +kernel
theorem dX7_good_2 : decode cX7_good 2 = .ok (.invokevirtual 186, 3) := by decide +kernel
theorem dX7_good_5 : decode cX7_good 5 = .ok (.ifCond .ne 9, 3) := by decide +kernel
theorem dX7_good_8 : decode cX7_good 8 = .ok (.aload_n 0, 1) := by decide +kernel
theorem dX7_good_9 : decode cX7_good 9 = .ok (.iconst 1, 1) := by decide +kernel
theorem dX7_good_10 : decode cX7_good 10 = .ok (.invokevirtual 101, 3) := by decide +kernel
theorem dX7_good_13 : decode cX7_good 13 = .ok (.ireturn, 1) := by decide +kernel
theorem dX7_good_14 : decode cX7_good 14 = .ok (.aload_n 0, 1) := by decide +kernel
theorem dX7_good_15 : decode cX7_good 15 = .ok (.aload_n 0, 1) := by decide +kernel
theorem dX7_good_16 : decode cX7_good 16 = .ok (.getfield 26, 3) := by decide +kernel
theorem dX7_good_19 : decode cX7_good 19 = .ok (.getfield 189, 3) := by decide +kernel
theorem dX7_good_22 : decode cX7_good 22 = .ok (.iload_n 1, 1) := by decide +kernel
theorem dX7_good_23 : decode cX7_good 23 = .ok (.baload, 1) := by decide +kernel
theorem dX7_good_24 : decode cX7_good 24 = .ok (.ifCond .eq 7, 3) := by decide +kernel
theorem dX7_good_27 : decode cX7_good 27 = .ok (.iconst 1, 1) := by decide +kernel
theorem dX7_good_28 : decode cX7_good 28 = .ok (.goto 4, 3) := by decide +kernel
theorem dX7_good_31 : decode cX7_good 31 = .ok (.iconst 0, 1) := by decide +kernel
theorem dX7_good_32 : decode cX7_good 32 = .ok (.invokevirtual 137, 3) := by decide +kernel
theorem dX7_good_35 : decode cX7_good 35 = .ok (.ireturn, 1) := by decide +kernel
set_option maxRecDepth 20000 in
theorem ggX7_habit_X7_isWithin : GoodIn wsX7_habit wsX7_isWithin := goodIn_r _ [5] (by decide +kernel) (by decide +kernel)
set_option maxRecDepth 20000 in
theorem gX7_habit_X7_isWithin : GoodIn wsX7_habit (va_wsS RX7 82 yX7_isWithin wsX7_isWithin) := goodIn_app (goodIn_of _ (by decide +kernel)) ggX7_habit_X7_isWithin
set_option maxRecDepth 20000 in
theorem ggX7_habit_X7_isDone : GoodIn wsX7_habit wsX7_isDone := goodIn_r _ [9, 10, 16, 17, 18, 19, 20, 21, 22, 23, 24, 25, 26] (by decide +kernel) (by decide +kernel)
set_option maxRecDepth 20000 in
theorem gX7_habit_X7_isDone : GoodIn wsX7_habit (wsV RX7 86 RX7 yX7_isDone wsX7_isDone) := goodIn_app (goodIn_of _ (by decide +kernel)) ggX7_habit_X7_isDone
set_option maxRecDepth 20000 in
theorem ggX7_habit_X1_set : GoodIn wsX7_habit wsX1_set := goodIn_r _ [14, 15, 27] (by decide +kernel) (by decide +kernel)
set_option maxRecDepth 20000 in
theorem gX7_habit_X1_set_n192 : GoodIn wsX7_habit (wsX1_set) := ggX7_habit_X1_set
theorem dX7_habit_0 : decode cX7_habit 0 = .ok (.iload_n 1, 1) := by decide +kernel
theorem dX7_habit_1 : decode cX7_habit 1 = .ok (.iconst 0, 1) := by decide +kernel
theorem dX7_habit_2 : decode cX7_habit 2 = .ok (.bipush 9, 2) := by decide +kernel
theorem dX7_habit_4 : decode cX7_habit 4 = .ok (.invokestatic 82, 3) := by decide +kernel
theorem dX7_habit_7 : decode cX7_habit 7 = .ok (.ifCond .eq 18, 3) := by decide +kernel
theorem dX7_habit_10 : decode cX7_habit 10 = .ok (.iload_n 2, 1) := by decide +kernel
theorem dX7_habit_11 : decode cX7_habit 11 = .ok (.iconst 0, 1) := by decide +kernel
theorem dX7_habit_12 : decode cX7_habit 12 = .ok (.bipush 9, 2) := by decide +kernel
theorem dX7_habit_14 : decode cX7_habit 14 = .ok (.invokestatic 82, 3) := by decide +kernel
theorem dX7_habit_17 : decode cX7_habit 17 = .ok (.ifCond .eq 8, 3) := by decide +kernel
theorem dX7_habit_20 : decode cX7_habit 20 = .ok (.iload_n 1, 1) := by decide +kernel
theorem dX7_habit_21 : decode cX7_habit 21 = .ok (.iload_n 2, 1) := by decide +kernel
theorem dX7_habit_22 : decode cX7_habit 22 = .ok (.if_icmp .ne 9, 3) := by decide +kernel
theorem dX7_habit_25 : decode cX7_habit 25 = .ok (.aload_n 0, 1) := by decide +kernel
theorem dX7_habit_26 : decode cX7_habit 26 = .ok (.iconst 1, 1) := by decide +kernel
theorem dX7_habit_27 : decode cX7_habit 27 = .ok (.invokevirtual 86, 3) := by decide +kernel
theorem dX7_habit_30 : decode cX7_habit 30 = .ok (.ireturn, 1) := by decide +kernel
theorem dX7_habit_31 : decode cX7_habit 31 = .ok (.aload_n 0, 1) := by decide +kernel
theorem dX7_habit_32 : decode cX7_habit 32 = .ok (.getfield 33, 3) := by decide +kernel
theorem dX7_habit_35 : decode cX7_habit 35 = .ok (.iload_n 1, 1) := by decide +kernel
theorem dX7_habit_36 : decode cX7_habit 36 = .ok (.iload_n 2, 1) := by decide +kernel
theorem dX7_habit_37 : decode cX7_habit 37 = .ok (.iload_n 3, 1) := by decide +kernel
theorem dX7_habit_38 : decode cX7_habit 38 = .ok (.invokevirtual 192, 3) := by decide +kernel
theorem dX7_habit_41 : decode cX7_habit 41 = .ok (.aload_n 0, 1) := by decide +kernel
theorem dX7_habit_42 : decode cX7_habit 42 = .ok (.iconst 0, 1) := by decide +kernel
theorem dX7_habit_43 : decode cX7_habit 43 = .ok (.invokevirtual 86, 3) := by decide +kernel
theorem dX7_habit_46 : decode cX7_habit 46 = .ok (.ireturn, 1) := by decide +kernel
set_option maxRecDepth 20000 in
theorem ggX7_slip_X7_isSheet : GoodIn wsX7_slip wsX7_isSheet := goodIn_r _ [6, 1, 7, 8, 5, 9, 52, 53, 54, 55, 56, 57, 58, 59, 60, 61, 62, 63, 64, 65, 66, 67, 68, 69, 70, 71] (by decide +kernel) (by decide +kernel)
set_option maxRecDepth 20000 in
theorem gX7_slip_X7_isSheet : GoodIn wsX7_slip (wsV RX7 186 RX7 yX7_isSheet wsX7_isSheet) := goodIn_app (goodIn_of _ (by decide +kernel)) ggX7_slip_X7_isSheet
set_option maxRecDepth 20000 in
theorem ggX7_slip_X7_refused : GoodIn wsX7_slip wsX7_refused := goodIn_r _ [13, 14, 52, 53, 54, 55, 56, 57, 58, 59, 60, 61, 62] (by decide +kernel) (by decide +kernel)
set_option maxRecDepth 20000 in
theorem gX7_slip_X7_refused : GoodIn wsX7_slip (wsV RX7 101 RX7 yX7_refused wsX7_refused) := goodIn_app (goodIn_of _ (by decide +kernel)) ggX7_slip_X7_refused
set_option maxRecDepth 20000 in
theorem ggX7_slip_X7_slipOf : GoodIn wsX7_slip wsX7_slipOf := goodIn_r _ [18, 19, 20, 21, 22, 5, 23, 1, 24, 25, 26, 27, 28, 29, 30, 31, 32, 33, 34, 35, 36, 37, 38, 39, 40, 41, 42, 43, 52, 53, 54, 55, 56, 57, 58, 59, 60, 61, 62, 72, 73, 74, 75, 76, 77, 78, 79, 63, 64, 65, 66, 67, 68, 69, 70, 71, 80] (by decide +kernel) (by decide +kernel)
set_option maxRecDepth 20000 in
theorem gX7_slip_X7_slipOf : GoodIn wsX7_slip (wsV RX7 196 RX7 yX7_slipOf wsX7_slipOf) := goodIn_app (goodIn_of _ (by decide +kernel)) ggX7_slip_X7_slipOf
set_option maxRecDepth 20000 in
theorem ggX7_slip_X7_answeredIfAny : GoodIn wsX7_slip wsX7_answeredIfAny := goodIn_r _ [47, 10, 11, 12, 5, 13, 14, 48, 49, 50, 51, 52, 53, 54, 55, 56, 57, 58, 59, 60, 61, 62] (by decide +kernel) (by decide +kernel)
set_option maxRecDepth 20000 in
theorem gX7_slip_X7_answeredIfAny : GoodIn wsX7_slip (wsV RX7 199 RX7 yX7_answeredIfAny wsX7_answeredIfAny) := goodIn_app (goodIn_of _ (by decide +kernel)) ggX7_slip_X7_answeredIfAny
theorem dX7_slip_0 : decode cX7_slip 0 = .ok (.aload_n 0, 1) := by decide +kernel
theorem dX7_slip_1 : decode cX7_slip 1 = .ok (.iload_n 1, 1) := by decide +kernel
theorem dX7_slip_2 : decode cX7_slip 2 = .ok (.invokevirtual 186, 3) := by decide +kernel
theorem dX7_slip_5 : decode cX7_slip 5 = .ok (.ifCond .ne 9, 3) := by decide +kernel
theorem dX7_slip_8 : decode cX7_slip 8 = .ok (.aload_n 0, 1) := by decide +kernel
theorem dX7_slip_9 : decode cX7_slip 9 = .ok (.iconst 1, 1) := by decide +kernel
theorem dX7_slip_10 : decode cX7_slip 10 = .ok (.invokevirtual 101, 3) := by decide +kernel
theorem dX7_slip_13 : decode cX7_slip 13 = .ok (.ireturn, 1) := by decide +kernel
theorem dX7_slip_14 : decode cX7_slip 14 = .ok (.iload_n 2, 1) := by decide +kernel
theorem dX7_slip_15 : decode cX7_slip 15 = .ok (.ifCond .lt 15, 3) := by decide +kernel
theorem dX7_slip_18 : decode cX7_slip 18 = .ok (.aload_n 0, 1) := by decide +kernel
theorem dX7_slip_19 : decode cX7_slip 19 = .ok (.getfield 26, 3) := by decide +kernel
theorem dX7_slip_22 : decode cX7_slip 22 = .ok (.getfield 189, 3) := by decide +kernel
theorem dX7_slip_25 : decode cX7_slip 25 = .ok (.iload_n 1, 1) := by decide +kernel
theorem dX7_slip_26 : decode cX7_slip 26 = .ok (.baload, 1) := by decide +kernel
theorem dX7_slip_27 : decode cX7_slip 27 = .ok (.ifCond .eq 10, 3) := by decide +kernel
theorem dX7_slip_30 : decode cX7_slip 30 = .ok (.aload_n 0, 1) := by decide +kernel
theorem dX7_slip_31 : decode cX7_slip 31 = .ok (.bipush 6, 2) := by decide +kernel
theorem dX7_slip_33 : decode cX7_slip 33 = .ok (.invokevirtual 101, 3) := by decide +kernel
theorem dX7_slip_36 : decode cX7_slip 36 = .ok (.ireturn, 1) := by decide +kernel
theorem dX7_slip_37 : decode cX7_slip 37 = .ok (.aload_n 0, 1) := by decide +kernel
theorem dX7_slip_38 : decode cX7_slip 38 = .ok (.aload_n 0, 1) := by decide +kernel
theorem dX7_slip_39 : decode cX7_slip 39 = .ok (.iload_n 1, 1) := by decide +kernel
theorem dX7_slip_40 : decode cX7_slip 40 = .ok (.iload_n 2, 1) := by decide +kernel
theorem dX7_slip_41 : decode cX7_slip 41 = .ok (.invokevirtual 196, 3) := by decide +kernel
theorem dX7_slip_44 : decode cX7_slip 44 = .ok (.invokevirtual 199, 3) := by decide +kernel
theorem dX7_slip_47 : decode cX7_slip 47 = .ok (.ireturn, 1) := by decide +kernel
set_option maxRecDepth 20000 in
theorem ggX7_known_X7_isPoll : GoodIn wsX7_known wsX7_isPoll := goodIn_r _ [6, 7, 8, 9, 5, 10, 39, 40, 41, 42, 43, 44, 45, 46, 47, 48, 49, 50, 51, 52, 53, 54, 55, 56, 57] (by decide +kernel) (by decide +kernel)
set_option maxRecDepth 20000 in
theorem gX7_known_X7_isPoll : GoodIn wsX7_known (wsV RX7 147 RX7 yX7_isPoll wsX7_isPoll) := goodIn_app (goodIn_of _ (by decide +kernel)) ggX7_known_X7_isPoll
set_option maxRecDepth 20000 in
theorem ggX7_known_X7_isMinute : GoodIn wsX7_known wsX7_isMinute := goodIn_r _ [13, 8, 9, 5, 10] (by decide +kernel) (by decide +kernel)
set_option maxRecDepth 20000 in
theorem gX7_known_X7_isMinute : GoodIn wsX7_known (va_wsS RX7 202 yX7_isMinute wsX7_isMinute) := goodIn_app (goodIn_of _ (by decide +kernel)) ggX7_known_X7_isMinute
set_option maxRecDepth 20000 in
theorem ggX7_known_X7_refused : GoodIn wsX7_known wsX7_refused := goodIn_r _ [17, 18, 39, 40, 41, 42, 43, 44, 45, 46, 47, 48, 49] (by decide +kernel) (by decide +kernel)
set_option maxRecDepth 20000 in
theorem gX7_known_X7_refused : GoodIn wsX7_known (wsV RX7 101 RX7 yX7_refused wsX7_refused) := goodIn_app (goodIn_of _ (by decide +kernel)) ggX7_known_X7_refused
set_option maxRecDepth 20000 in
theorem ggX7_known_X5_findKnownOf : GoodIn wsX7_known wsX5_findKnownOf := goodIn_r _ [22, 23, 24, 25, 26, 27, 20, 28, 29, 30, 58, 59, 60, 61, 62, 63, 64, 65, 66] (by decide +kernel) (by decide +kernel)
set_option maxRecDepth 20000 in
theorem gX7_known_X5_findKnownOf_n205 : GoodIn wsX7_known (wsX5_findKnownOf) := ggX7_known_X5_findKnownOf
set_option maxRecDepth 20000 in
theorem ggX7_known_X7_answeredIfAny : GoodIn wsX7_known wsX7_answeredIfAny := goodIn_r _ [34, 14, 15, 16, 5, 17, 18, 35, 36, 37, 38, 39, 40, 41, 42, 43, 44, 45, 46, 47, 48, 49] (by decide +kernel) (by decide +kernel)
set_option maxRecDepth 20000 in
theorem gX7_known_X7_answeredIfAny : GoodIn wsX7_known (wsV RX7 199 RX7 yX7_answeredIfAny wsX7_answeredIfAny) := goodIn_app (goodIn_of _ (by decide +kernel)) ggX7_known_X7_answeredIfAny
theorem dX7_known_0 : decode cX7_known 0 = .ok (.aload_n 0, 1) := by decide +kernel
theorem dX7_known_1 : decode cX7_known 1 = .ok (.iload_n 1, 1) := by decide +kernel
theorem dX7_known_2 : decode cX7_known 2 = .ok (.invokevirtual 147, 3) := by decide +kernel
theorem dX7_known_5 : decode cX7_known 5 = .ok (.ifCond .eq 10, 3) := by decide +kernel
theorem dX7_known_8 : decode cX7_known 8 = .ok (.iload_n 2, 1) := by decide +kernel
theorem dX7_known_9 : decode cX7_known 9 = .ok (.invokestatic 202, 3) := by decide +kernel
theorem dX7_known_12 : decode cX7_known 12 = .ok (.ifCond .ne 9, 3) := by decide +kernel
theorem dX7_known_15 : decode cX7_known 15 = .ok (.aload_n 0, 1) := by decide +kernel
theorem dX7_known_16 : decode cX7_known 16 = .ok (.iconst 1, 1) := by decide +kernel
theorem dX7_known_17 : decode cX7_known 17 = .ok (.invokevirtual 101, 3) := by decide +kernel
theorem dX7_known_20 : decode cX7_known 20 = .ok (.ireturn, 1) := by decide +kernel
theorem dX7_known_21 : decode cX7_known 21 = .ok (.aload_n 0, 1) := by decide +kernel
theorem dX7_known_22 : decode cX7_known 22 = .ok (.aload_n 0, 1) := by decide +kernel
theorem dX7_known_23 : decode cX7_known 23 = .ok (.getfield 26, 3) := by decide +kernel
theorem dX7_known_26 : decode cX7_known 26 = .ok (.iload_n 1, 1) := by decide +kernel
theorem dX7_known_27 : decode cX7_known 27 = .ok (.iload_n 2, 1) := by decide +kernel
theorem dX7_known_28 : decode cX7_known 28 = .ok (.invokevirtual 205, 3) := by decide +kernel
theorem dX7_known_31 : decode cX7_known 31 = .ok (.invokevirtual 199, 3) := by decide +kernel
theorem dX7_known_34 : decode cX7_known 34 = .ok (.ireturn, 1) := by decide +kernel
set_option maxRecDepth 20000 in
theorem ggX7_layer_X7_isLayer : GoodIn wsX7_layer wsX7_isLayer := goodIn_r _ [6, 7, 8, 5, 9] (by decide +kernel) (by decide +kernel)
set_option maxRecDepth 20000 in
theorem gX7_layer_X7_isLayer : GoodIn wsX7_layer (va_wsS RX7 130 yX7_isLayer wsX7_isLayer) := goodIn_app (goodIn_of _ (by decide +kernel)) ggX7_layer_X7_isLayer
set_option maxRecDepth 20000 in
theorem ggX7_layer_X7_isWithin : GoodIn wsX7_layer wsX7_isWithin := goodIn_r _ [9] (by decide +kernel) (by decide +kernel)
set_option maxRecDepth 20000 in
theorem gX7_layer_X7_isWithin : GoodIn wsX7_layer (va_wsS RX7 82 yX7_isWithin wsX7_isWithin) := goodIn_app (goodIn_of _ (by decide +kernel)) ggX7_layer_X7_isWithin
set_option maxRecDepth 20000 in
theorem ggX7_layer_X7_isMinute : GoodIn wsX7_layer wsX7_isMinute := goodIn_r _ [12, 7, 8, 5, 9] (by decide +kernel) (by decide +kernel)
set_option maxRecDepth 20000 in
theorem gX7_layer_X7_isMinute : GoodIn wsX7_layer (va_wsS RX7 202 yX7_isMinute wsX7_isMinute) := goodIn_app (goodIn_of _ (by decide +kernel)) ggX7_layer_X7_isMinute
set_option maxRecDepth 20000 in
theorem ggX7_layer_X7_refused : GoodIn wsX7_layer wsX7_refused := goodIn_r _ [16, 17, 56, 57, 58, 59, 60, 61, 62, 63, 64, 65, 66] (by decide +kernel) (by decide +kernel)
set_option maxRecDepth 20000 in
theorem gX7_layer_X7_refused : GoodIn wsX7_layer (wsV RX7 101 RX7 yX7_refused wsX7_refused) := goodIn_app (goodIn_of _ (by decide +kernel)) ggX7_layer_X7_refused
set_option maxRecDepth 20000 in
theorem ggX7_layer_X7_answered : GoodIn wsX7_layer wsX7_answered := goodIn_r _ [21, 17, 56, 57, 58, 59, 60, 61, 62, 63, 64, 65, 66] (by decide +kernel) (by decide +kernel)
set_option maxRecDepth 20000 in
theorem gX7_layer_X7_answered : GoodIn wsX7_layer (wsV RX7 137 RX7 yX7_answered wsX7_answered) := goodIn_app (goodIn_of _ (by decide +kernel)) ggX7_layer_X7_answered
set_option maxRecDepth 20000 in
theorem ggX7_layer_X7_tally : GoodIn wsX7_layer wsX7_tally := goodIn_r _ [25, 26, 2, 1, 27, 28, 29, 30, 31, 32, 33, 34, 35, 36, 37, 38, 39, 40, 41, 42, 43, 44, 45, 46, 47, 48, 49, 50, 51, 52, 53, 54, 55, 56, 57, 58, 59, 60, 61, 62, 63, 64, 65, 66, 79, 80, 81, 82, 83, 84, 85, 86, 87, 75, 76, 77, 78, 67, 68, 69, 70, 71, 72, 73, 74] (by decide +kernel) (by decide +kernel)
set_option maxRecDepth 20000 in
theorem gX7_layer_X7_tally : GoodIn wsX7_layer (wsV RX7 208 RX7 yX7_tally wsX7_tally) := goodIn_app (goodIn_of _ (by decide +kernel)) ggX7_layer_X7_tally
theorem dX7_layer_0 : decode cX7_layer 0 = .ok (.iload_n 1, 1) := by decide +kernel
theorem dX7_layer_1 : decode cX7_layer 1 = .ok (.invokestatic 130, 3) := by decide +kernel
theorem dX7_layer_4 : decode cX7_layer 4 = .ok (.ifCond .eq 19, 3) := by decide +kernel
theorem dX7_layer_7 : decode cX7_layer 7 = .ok (.iload_n 2, 1) := by decide +kernel
theorem dX7_layer_8 : decode cX7_layer 8 = .ok (.iconst 0, 1) := by decide +kernel
theorem dX7_layer_9 : decode cX7_layer 9 = .ok (.iconst 2, 1) := by decide +kernel
theorem dX7_layer_10 : decode cX7_layer 10 = .ok (.invokestatic 82, 3) := by decide +kernel
theorem dX7_layer_13 : decode cX7_layer 13 = .ok (.ifCond .eq 10, 3) := by decide +kernel
theorem dX7_layer_16 : decode cX7_layer 16 = .ok (.iload_n 3, 1) := by decide +kernel
theorem dX7_layer_17 : decode cX7_layer 17 = .ok (.invokestatic 202, 3) := by decide +kernel
theorem dX7_layer_20 : decode cX7_layer 20 = .ok (.ifCond .ne 9, 3) := by decide +kernel
theorem dX7_layer_23 : decode cX7_layer 23 = .ok (.aload_n 0, 1) := by decide +kernel
theorem dX7_layer_24 : decode cX7_layer 24 = .ok (.iconst 1, 1) := by decide +kernel
theorem dX7_layer_25 : decode cX7_layer 25 = .ok (.invokevirtual 101, 3) := by decide +kernel
theorem dX7_layer_28 : decode cX7_layer 28 = .ok (.ireturn, 1) := by decide +kernel
theorem dX7_layer_29 : decode cX7_layer 29 = .ok (.aload_n 0, 1) := by decide +kernel
theorem dX7_layer_30 : decode cX7_layer 30 = .ok (.getfield 19, 3) := by decide +kernel
theorem dX7_layer_33 : decode cX7_layer 33 = .ok (.getfield 169, 3) := by decide +kernel
theorem dX7_layer_36 : decode cX7_layer 36 = .ok (.iload_n 1, 1) := by decide +kernel
theorem dX7_layer_37 : decode cX7_layer 37 = .ok (.iaload, 1) := by decide +kernel
theorem dX7_layer_38 : decode cX7_layer 38 = .ok (.ifCond .ne 10, 3) := by decide +kernel
theorem dX7_layer_41 : decode cX7_layer 41 = .ok (.aload_n 0, 1) := by decide +kernel
theorem dX7_layer_42 : decode cX7_layer 42 = .ok (.bipush 6, 2) := by decide +kernel
theorem dX7_layer_44 : decode cX7_layer 44 = .ok (.invokevirtual 101, 3) := by decide +kernel
theorem dX7_layer_47 : decode cX7_layer 47 = .ok (.ireturn, 1) := by decide +kernel
theorem dX7_layer_48 : decode cX7_layer 48 = .ok (.iload_n 2, 1) := by decide +kernel
theorem dX7_layer_49 : decode cX7_layer 49 = .ok (.ifCond .ne 17, 3) := by decide +kernel
theorem dX7_layer_52 : decode cX7_layer 52 = .ok (.aload_n 0, 1) := by decide +kernel
theorem dX7_layer_53 : decode cX7_layer 53 = .ok (.aload_n 0, 1) := by decide +kernel
theorem dX7_layer_54 : decode cX7_layer 54 = .ok (.getfield 19, 3) := by decide +kernel
theorem dX7_layer_57 : decode cX7_layer 57 = .ok (.getfield 166, 3) := by decide +kernel
theorem dX7_layer_60 : decode cX7_layer 60 = .ok (.iload_n 1, 1) := by decide +kernel
theorem dX7_layer_61 : decode cX7_layer 61 = .ok (.iaload, 1) := by decide +kernel
theorem dX7_layer_62 : decode cX7_layer 62 = .ok (.invokevirtual 137, 3) := by decide +kernel
theorem dX7_layer_65 : decode cX7_layer 65 = .ok (.ireturn, 1) := by decide +kernel
theorem dX7_layer_66 : decode cX7_layer 66 = .ok (.iload_n 2, 1) := by decide +kernel
theorem dX7_layer_67 : decode cX7_layer 67 = .ok (.iconst 2, 1) := by decide +kernel
theorem dX7_layer_68 : decode cX7_layer 68 = .ok (.if_icmp .ne 17, 3) := by decide +kernel
theorem dX7_layer_71 : decode cX7_layer 71 = .ok (.aload_n 0, 1) := by decide +kernel
theorem dX7_layer_72 : decode cX7_layer 72 = .ok (.aload_n 0, 1) := by decide +kernel
theorem dX7_layer_73 : decode cX7_layer 73 = .ok (.getfield 19, 3) := by decide +kernel
theorem dX7_layer_76 : decode cX7_layer 76 = .ok (.getfield 169, 3) := by decide +kernel
theorem dX7_layer_79 : decode cX7_layer 79 = .ok (.iload_n 1, 1) := by decide +kernel
theorem dX7_layer_80 : decode cX7_layer 80 = .ok (.iaload, 1) := by decide +kernel
theorem dX7_layer_81 : decode cX7_layer 81 = .ok (.invokevirtual 137, 3) := by decide +kernel
theorem dX7_layer_84 : decode cX7_layer 84 = .ok (.ireturn, 1) := by decide +kernel
theorem dX7_layer_85 : decode cX7_layer 85 = .ok (.aload_n 0, 1) := by decide +kernel
theorem dX7_layer_86 : decode cX7_layer 86 = .ok (.iconst 0, 1) := by decide +kernel
theorem dX7_layer_87 : decode cX7_layer 87 = .ok (.iconst (-1), 1) := by decide +kernel
theorem dX7_layer_88 : decode cX7_layer 88 = .ok (.iload_n 3, 1) := by decide +kernel
theorem dX7_layer_89 : decode cX7_layer 89 = .ok (.invokevirtual 208, 3) := by decide +kernel
theorem dX7_layer_92 : decode cX7_layer 92 = .ok (.aload_n 0, 1) := by decide +kernel
theorem dX7_layer_93 : decode cX7_layer 93 = .ok (.aload_n 0, 1) := by decide +kernel
theorem dX7_layer_94 : decode cX7_layer 94 = .ok (.getfield 40, 3) := by decide +kernel
theorem dX7_layer_97 : decode cX7_layer 97 = .ok (.getfield 211, 3) := by decide +kernel
theorem dX7_layer_100 : decode cX7_layer 100 = .ok (.iload_n 1, 1) := by decide +kernel
theorem dX7_layer_101 : decode cX7_layer 101 = .ok (.iaload, 1) := by decide +kernel
theorem dX7_layer_102 : decode cX7_layer 102 = .ok (.invokevirtual 137, 3) := by decide +kernel
theorem dX7_layer_105 : decode cX7_layer 105 = .ok (.ireturn, 1) := by decide +kernel
set_option maxRecDepth 20000 in
theorem ggX7_sum_X7_whyNoTally : GoodIn wsX7_sum wsX7_whyNoTally := goodIn_r _ [8, 1, 2, 9, 10, 11, 7, 12, 13, 14, 15, 16, 17, 18, 19, 20, 21, 22, 23, 24, 25, 26, 27, 28, 29, 30, 31, 32, 33, 34, 35, 36, 37, 38, 39, 40, 41, 42, 43, 44, 45, 46, 47, 48, 49, 50, 51, 52, 53, 54, 55, 56, 57, 58, 59, 60, 61, 98, 99, 100, 101, 102, 103, 104, 105, 106, 107, 108, 109, 110, 111, 112, 113, 114, 115, 116, 117, 118, 119, 120, 121, 122, 123, 124, 125, 126, 127, 128, 129] (by decide +kernel) (by decide +kernel)
set_option maxRecDepth 20000 in
theorem gX7_sum_X7_whyNoTally : GoodIn wsX7_sum (wsV RX7 214 RX7 yX7_whyNoTally wsX7_whyNoTally) := goodIn_app (goodIn_of _ (by decide +kernel)) ggX7_sum_X7_whyNoTally
set_option maxRecDepth 20000 in
theorem ggX7_sum_X7_refused : GoodIn wsX7_sum wsX7_refused := goodIn_r _ [65, 66, 98, 99, 100, 101, 102, 103, 104, 105, 106, 107, 108] (by decide +kernel) (by decide +kernel)
set_option maxRecDepth 20000 in
theorem gX7_sum_X7_refused : GoodIn wsX7_sum (wsV RX7 101 RX7 yX7_refused wsX7_refused) := goodIn_app (goodIn_of _ (by decide +kernel)) ggX7_sum_X7_refused
set_option maxRecDepth 20000 in
theorem ggX7_sum_X2_tellSum : GoodIn wsX7_sum wsX2_tellSum := goodIn_r _ [69, 42, 43, 70, 71, 72, 73, 74, 75, 76, 77, 78, 79, 80, 81, 82, 83, 84, 85, 86, 87, 88, 89, 90, 122, 123, 124, 125, 126, 127, 128, 129, 118, 119, 120, 121, 130, 131] (by decide +kernel) (by decide +kernel)
set_option maxRecDepth 20000 in
theorem gX7_sum_X2_tellSum_n218 : GoodIn wsX7_sum (wsX2_tellSum) := ggX7_sum_X2_tellSum
set_option maxRecDepth 20000 in
theorem ggX7_sum_X0_sign : GoodIn wsX7_sum wsX0_sign := goodIn_r _ [93, 74, 130, 131] (by decide +kernel) (by decide +kernel)
set_option maxRecDepth 20000 in
theorem gX7_sum_X0_sign_n175 : GoodIn wsX7_sum (wsX0_sign) := ggX7_sum_X0_sign
set_option maxRecDepth 20000 in
theorem ggX7_sum_X7_answered : GoodIn wsX7_sum wsX7_answered := goodIn_r _ [97, 66, 98, 99, 100, 101, 102, 103, 104, 105, 106, 107, 108] (by decide +kernel) (by decide +kernel)
set_option maxRecDepth 20000 in
theorem gX7_sum_X7_answered : GoodIn wsX7_sum (wsV RX7 137 RX7 yX7_answered wsX7_answered) := goodIn_app (goodIn_of _ (by decide +kernel)) ggX7_sum_X7_answered
theorem dX7_sum_0 : decode cX7_sum 0 = .ok (.aload_n 0, 1) := by decide +kernel
theorem dX7_sum_1 : decode cX7_sum 1 = .ok (.iload_n 1, 1) := by decide +kernel
theorem dX7_sum_2 : decode cX7_sum 2 = .ok (.iload_n 2, 1) := by decide +kernel
theorem dX7_sum_3 : decode cX7_sum 3 = .ok (.iload_n 3, 1) := by decide +kernel
theorem dX7_sum_4 : decode cX7_sum 4 = .ok (.iconst 1, 1) := by decide +kernel
theorem dX7_sum_5 : decode cX7_sum 5 = .ok (.invokevirtual 214, 3) := by decide +kernel
theorem dX7_sum_8 : decode cX7_sum 8 = .ok (.istore 4, 2) := by decide +kernel
theorem dX7_sum_10 : decode cX7_sum 10 = .ok (.iload 4, 2) := by decide +kernel
theorem dX7_sum_12 : decode cX7_sum 12 = .ok (.ifCond .eq 10, 3) := by decide +kernel
theorem dX7_sum_15 : decode cX7_sum 15 = .ok (.aload_n 0, 1) := by decide +kernel
theorem dX7_sum_16 : decode cX7_sum 16 = .ok (.iload 4, 2) := by decide +kernel
theorem dX7_sum_18 : decode cX7_sum 18 = .ok (.invokevirtual 101, 3) := by decide +kernel
theorem dX7_sum_21 : decode cX7_sum 21 = .ok (.ireturn, 1) := by decide +kernel
theorem dX7_sum_22 : decode cX7_sum 22 = .ok (.aload_n 0, 1) := by decide +kernel
theorem dX7_sum_23 : decode cX7_sum 23 = .ok (.getfield 40, 3) := by decide +kernel
theorem dX7_sum_26 : decode cX7_sum 26 = .ok (.aload_n 0, 1) := by decide +kernel
theorem dX7_sum_27 : decode cX7_sum 27 = .ok (.getfield 19, 3) := by decide +kernel
theorem dX7_sum_30 : decode cX7_sum 30 = .ok (.aload_n 0, 1) := by decide +kernel
theorem dX7_sum_31 : decode cX7_sum 31 = .ok (.getfield 54, 3) := by decide +kernel
theorem dX7_sum_34 : decode cX7_sum 34 = .ok (.invokevirtual 218, 3) := by decide +kernel
theorem dX7_sum_37 : decode cX7_sum 37 = .ok (.aload_n 0, 1) := by decide +kernel
theorem dX7_sum_38 : decode cX7_sum 38 = .ok (.aload_n 0, 1) := by decide +kernel
theorem dX7_sum_39 : decode cX7_sum 39 = .ok (.getfield 54, 3) := by decide +kernel
theorem dX7_sum_42 : decode cX7_sum 42 = .ok (.invokevirtual 175, 3) := by decide +kernel
theorem dX7_sum_45 : decode cX7_sum 45 = .ok (.invokevirtual 137, 3) := by decide +kernel
theorem dX7_sum_48 : decode cX7_sum 48 = .ok (.ireturn, 1) := by decide +kernel
set_option maxRecDepth 20000 in
theorem ggX7_doubt_X7_whyNoTally : GoodIn wsX7_doubt wsX7_whyNoTally := goodIn_r _ [8, 1, 2, 9, 10, 11, 7, 12, 13, 14, 15, 16, 17, 18, 19, 20, 21, 22, 23, 24, 25, 26, 27, 28, 29, 30, 31, 32, 33, 34, 35, 36, 37, 38, 39, 40, 41, 42, 43, 44, 45, 46, 47, 48, 49, 50, 51, 52, 53, 54, 55, 56, 57, 58, 59, 60, 61, 98, 99, 100, 101, 102, 103, 104, 105, 106, 107, 108, 109, 110, 111, 112, 113, 114, 115, 116, 117, 118, 119, 120, 121, 122, 123, 124, 125, 126, 127, 128, 129] (by decide +kernel) (by decide +kernel)
set_option maxRecDepth 20000 in
theorem gX7_doubt_X7_whyNoTally : GoodIn wsX7_doubt (wsV RX7 214 RX7 yX7_whyNoTally wsX7_whyNoTally) := goodIn_app (goodIn_of _ (by decide +kernel)) ggX7_doubt_X7_whyNoTally
set_option maxRecDepth 20000 in
theorem ggX7_doubt_X7_refused : GoodIn wsX7_doubt wsX7_refused := goodIn_r _ [65, 66, 98, 99, 100, 101, 102, 103, 104, 105, 106, 107, 108] (by decide +kernel) (by decide +kernel)
set_option maxRecDepth 20000 in
theorem gX7_doubt_X7_refused : GoodIn wsX7_doubt (wsV RX7 101 RX7 yX7_refused wsX7_refused) := goodIn_app (goodIn_of _ (by decide +kernel)) ggX7_doubt_X7_refused
set_option maxRecDepth 20000 in
theorem ggX7_doubt_X2_tellDoubt : GoodIn wsX7_doubt wsX2_tellDoubt := goodIn_r _ [69, 42, 44, 43, 70, 71, 72, 73, 74, 75, 76, 77, 78, 79, 80, 81, 82, 83, 84, 85, 86, 87, 88, 89, 90, 118, 119, 120, 121, 122, 123, 124, 125, 126, 127, 128, 129, 130, 131] (by decide +kernel) (by decide +kernel)
set_option maxRecDepth 20000 in
theorem gX7_doubt_X2_tellDoubt_n222 : GoodIn wsX7_doubt (wsX2_tellDoubt) := ggX7_doubt_X2_tellDoubt
set_option maxRecDepth 20000 in
theorem ggX7_doubt_X0_sign : GoodIn wsX7_doubt wsX0_sign := goodIn_r _ [93, 74, 130, 131] (by decide +kernel) (by decide +kernel)
set_option maxRecDepth 20000 in
theorem gX7_doubt_X0_sign_n175 : GoodIn wsX7_doubt (wsX0_sign) := ggX7_doubt_X0_sign
set_option maxRecDepth 20000 in
theorem ggX7_doubt_X7_answered : GoodIn wsX7_doubt wsX7_answered := goodIn_r _ [97, 66, 98, 99, 100, 101, 102, 103, 104, 105, 106, 107, 108] (by decide +kernel) (by decide +kernel)
set_option maxRecDepth 20000 in
theorem gX7_doubt_X7_answered : GoodIn wsX7_doubt (wsV RX7 137 RX7 yX7_answered wsX7_answered) := goodIn_app (goodIn_of _ (by decide +kernel)) ggX7_doubt_X7_answered
theorem dX7_doubt_0 : decode cX7_doubt 0 = .ok (.aload_n 0, 1) := by decide +kernel
theorem dX7_doubt_1 : decode cX7_doubt 1 = .ok (.iload_n 1, 1) := by decide +kernel
theorem dX7_doubt_2 : decode cX7_doubt 2 = .ok (.iload_n 2, 1) := by decide +kernel
theorem dX7_doubt_3 : decode cX7_doubt 3 = .ok (.iload_n 3, 1) := by decide +kernel
theorem dX7_doubt_4 : decode cX7_doubt 4 = .ok (.iconst 2, 1) := by decide +kernel
theorem dX7_doubt_5 : decode cX7_doubt 5 = .ok (.invokevirtual 214, 3) := by decide +kernel
theorem dX7_doubt_8 : decode cX7_doubt 8 = .ok (.istore 4, 2) := by decide +kernel
theorem dX7_doubt_10 : decode cX7_doubt 10 = .ok (.iload 4, 2) := by decide +kernel
theorem dX7_doubt_12 : decode cX7_doubt 12 = .ok (.ifCond .eq 10, 3) := by decide +kernel
theorem dX7_doubt_15 : decode cX7_doubt 15 = .ok (.aload_n 0, 1) := by decide +kernel
theorem dX7_doubt_16 : decode cX7_doubt 16 = .ok (.iload 4, 2) := by decide +kernel
theorem dX7_doubt_18 : decode cX7_doubt 18 = .ok (.invokevirtual 101, 3) := by decide +kernel
theorem dX7_doubt_21 : decode cX7_doubt 21 = .ok (.ireturn, 1) := by decide +kernel
theorem dX7_doubt_22 : decode cX7_doubt 22 = .ok (.aload_n 0, 1) := by decide +kernel
theorem dX7_doubt_23 : decode cX7_doubt 23 = .ok (.getfield 40, 3) := by decide +kernel
theorem dX7_doubt_26 : decode cX7_doubt 26 = .ok (.aload_n 0, 1) := by decide +kernel
theorem dX7_doubt_27 : decode cX7_doubt 27 = .ok (.getfield 19, 3) := by decide +kernel
theorem dX7_doubt_30 : decode cX7_doubt 30 = .ok (.aload_n 0, 1) := by decide +kernel
theorem dX7_doubt_31 : decode cX7_doubt 31 = .ok (.getfield 54, 3) := by decide +kernel
theorem dX7_doubt_34 : decode cX7_doubt 34 = .ok (.invokevirtual 222, 3) := by decide +kernel
theorem dX7_doubt_37 : decode cX7_doubt 37 = .ok (.aload_n 0, 1) := by decide +kernel
theorem dX7_doubt_38 : decode cX7_doubt 38 = .ok (.aload_n 0, 1) := by decide +kernel
theorem dX7_doubt_39 : decode cX7_doubt 39 = .ok (.getfield 54, 3) := by decide +kernel
theorem dX7_doubt_42 : decode cX7_doubt 42 = .ok (.invokevirtual 175, 3) := by decide +kernel
theorem dX7_doubt_45 : decode cX7_doubt 45 = .ok (.invokevirtual 137, 3) := by decide +kernel
theorem dX7_doubt_48 : decode cX7_doubt 48 = .ok (.ireturn, 1) := by decide +kernel
set_option maxRecDepth 20000 in
theorem ggX7_margin_X7_whyNoTally : GoodIn wsX7_margin wsX7_whyNoTally := goodIn_r _ [9, 1, 2, 10, 11, 12, 8, 13, 14, 15, 16, 17, 18, 19, 20, 21, 22, 23, 24, 25, 26, 27, 28, 29, 30, 31, 32, 33, 34, 35, 36, 37, 38, 39, 40, 41, 42, 43, 44, 45, 46, 47, 48, 49, 50, 51, 52, 53, 54, 55, 56, 57, 58, 59, 60, 61, 62, 104, 105, 106, 107, 108, 109, 110, 111, 112, 113, 114, 115, 116, 117, 118, 119, 120, 121, 122, 123, 124, 125, 126, 127, 128, 129, 130, 131, 132, 133, 134, 135] (by decide +kernel) (by decide +kernel)
set_option maxRecDepth 20000 in
theorem gX7_margin_X7_whyNoTally : GoodIn wsX7_margin (wsV RX7 214 RX7 yX7_whyNoTally wsX7_whyNoTally) := goodIn_app (goodIn_of _ (by decide +kernel)) ggX7_margin_X7_whyNoTally
set_option maxRecDepth 20000 in
theorem ggX7_margin_X7_refused : GoodIn wsX7_margin wsX7_refused := goodIn_r _ [66, 67, 104, 105, 106, 107, 108, 109, 110, 111, 112, 113, 114] (by decide +kernel) (by decide +kernel)
set_option maxRecDepth 20000 in
theorem gX7_margin_X7_refused : GoodIn wsX7_margin (wsV RX7 101 RX7 yX7_refused wsX7_refused) := goodIn_app (goodIn_of _ (by decide +kernel)) ggX7_margin_X7_refused
set_option maxRecDepth 20000 in
theorem ggX7_margin_X2_tellDoubt : GoodIn wsX7_margin wsX2_tellDoubt := goodIn_r _ [70, 43, 45, 44, 71, 72, 73, 74, 75, 76, 77, 78, 79, 80, 81, 82, 83, 84, 85, 86, 87, 88, 89, 90, 91, 124, 125, 126, 127, 128, 129, 130, 131, 132, 133, 134, 135, 136, 137] (by decide +kernel) (by decide +kernel)
set_option maxRecDepth 20000 in
theorem gX7_margin_X2_tellDoubt_n222 : GoodIn wsX7_margin (wsX2_tellDoubt) := ggX7_margin_X2_tellDoubt
set_option maxRecDepth 20000 in
theorem ggX7_margin_X0_roundedUp : GoodIn wsX7_margin wsX0_roundedUp := goodIn_r _ [94, 76, 75, 136, 137] (by decide +kernel) (by decide +kernel)
set_option maxRecDepth 20000 in
theorem gX7_margin_X0_roundedUp_n227 : GoodIn wsX7_margin (wsX0_roundedUp) := ggX7_margin_X0_roundedUp
set_option maxRecDepth 20000 in
theorem ggX7_margin_X7_rootAtLeast : GoodIn wsX7_margin wsX7_rootAtLeast := goodIn_r _ [97, 98, 99] (by decide +kernel) (by decide +kernel)
set_option maxRecDepth 20000 in
theorem gX7_margin_X7_rootAtLeast : GoodIn wsX7_margin (va_wsS RX7 231 yX7_rootAtLeast wsX7_rootAtLeast) := goodIn_app (goodIn_of _ (by decide +kernel)) ggX7_margin_X7_rootAtLeast
set_option maxRecDepth 20000 in
theorem ggX7_margin_X7_answered : GoodIn wsX7_margin wsX7_answered := goodIn_r _ [103, 67, 104, 105, 106, 107, 108, 109, 110, 111, 112, 113, 114] (by decide +kernel) (by decide +kernel)
set_option maxRecDepth 20000 in
theorem gX7_margin_X7_answered : GoodIn wsX7_margin (wsV RX7 137 RX7 yX7_answered wsX7_answered) := goodIn_app (goodIn_of _ (by decide +kernel)) ggX7_margin_X7_answered
theorem dX7_margin_0 : decode cX7_margin 0 = .ok (.aload_n 0, 1) := by decide +kernel
theorem dX7_margin_1 : decode cX7_margin 1 = .ok (.iload_n 1, 1) := by decide +kernel
theorem dX7_margin_2 : decode cX7_margin 2 = .ok (.iload_n 2, 1) := by decide +kernel
theorem dX7_margin_3 : decode cX7_margin 3 = .ok (.iload_n 3, 1) := by decide +kernel
theorem dX7_margin_4 : decode cX7_margin 4 = .ok (.iconst 2, 1) := by decide +kernel
theorem dX7_margin_5 : decode cX7_margin 5 = .ok (.invokevirtual 214, 3) := by decide +kernel
theorem dX7_margin_8 : decode cX7_margin 8 = .ok (.istore 4, 2) := by decide +kernel
theorem dX7_margin_10 : decode cX7_margin 10 = .ok (.iload 4, 2) := by decide +kernel
theorem dX7_margin_12 : decode cX7_margin 12 = .ok (.ifCond .eq 10, 3) := by decide +kernel
theorem dX7_margin_15 : decode cX7_margin 15 = .ok (.aload_n 0, 1) := by decide +kernel
theorem dX7_margin_16 : decode cX7_margin 16 = .ok (.iload 4, 2) := by decide +kernel
theorem dX7_margin_18 : decode cX7_margin 18 = .ok (.invokevirtual 101, 3) := by decide +kernel
theorem dX7_margin_21 : decode cX7_margin 21 = .ok (.ireturn, 1) := by decide +kernel
theorem dX7_margin_22 : decode cX7_margin 22 = .ok (.aload_n 0, 1) := by decide +kernel
theorem dX7_margin_23 : decode cX7_margin 23 = .ok (.getfield 40, 3) := by decide +kernel
theorem dX7_margin_26 : decode cX7_margin 26 = .ok (.aload_n 0, 1) := by decide +kernel
theorem dX7_margin_27 : decode cX7_margin 27 = .ok (.getfield 19, 3) := by decide +kernel
theorem dX7_margin_30 : decode cX7_margin 30 = .ok (.aload_n 0, 1) := by decide +kernel
theorem dX7_margin_31 : decode cX7_margin 31 = .ok (.getfield 58, 3) := by decide +kernel
theorem dX7_margin_34 : decode cX7_margin 34 = .ok (.invokevirtual 222, 3) := by decide +kernel
theorem dX7_margin_37 : decode cX7_margin 37 = .ok (.aload_n 0, 1) := by decide +kernel
theorem dX7_margin_38 : decode cX7_margin 38 = .ok (.aload_n 0, 1) := by decide +kernel
theorem dX7_margin_39 : decode cX7_margin 39 = .ok (.getfield 58, 3) := by decide +kernel
theorem dX7_margin_42 : decode cX7_margin 42 = .ok (.ldc2_w 225, 3) := by decide +kernel
theorem dX7_margin_45 : decode cX7_margin 45 = .ok (.invokevirtual 227, 3) := by decide +kernel
theorem dX7_margin_48 : decode cX7_margin 48 = .ok (.invokestatic 231, 3) := by decide +kernel
theorem dX7_margin_51 : decode cX7_margin 51 = .ok (.invokevirtual 137, 3) := by decide +kernel
theorem dX7_margin_54 : decode cX7_margin 54 = .ok (.ireturn, 1) := by decide +kernel
set_option maxRecDepth 20000 in
theorem ggX7_worst_X7_isParty : GoodIn wsX7_worst wsX7_isParty := goodIn_r _ [8, 9, 10, 11, 7, 12, 91, 92, 93, 94, 95, 96, 97, 98, 99, 100, 101] (by decide +kernel) (by decide +kernel)
set_option maxRecDepth 20000 in
theorem gX7_worst_X7_isParty : GoodIn wsX7_worst (wsV RX7 235 RX7 yX7_isParty wsX7_isParty) := goodIn_app (goodIn_of _ (by decide +kernel)) ggX7_worst_X7_isParty
set_option maxRecDepth 20000 in
theorem ggX7_worst_X7_isMinute : GoodIn wsX7_worst wsX7_isMinute := goodIn_r _ [15, 10, 11, 7, 12] (by decide +kernel) (by decide +kernel)
set_option maxRecDepth 20000 in
theorem gX7_worst_X7_isMinute : GoodIn wsX7_worst (va_wsS RX7 202 yX7_isMinute wsX7_isMinute) := goodIn_app (goodIn_of _ (by decide +kernel)) ggX7_worst_X7_isMinute
set_option maxRecDepth 20000 in
theorem ggX7_worst_X7_refused : GoodIn wsX7_worst wsX7_refused := goodIn_r _ [19, 20, 91, 92, 93, 94, 95, 96, 97, 98, 99, 100, 101] (by decide +kernel) (by decide +kernel)
set_option maxRecDepth 20000 in
theorem gX7_worst_X7_refused : GoodIn wsX7_worst (wsV RX7 101 RX7 yX7_refused wsX7_refused) := goodIn_app (goodIn_of _ (by decide +kernel)) ggX7_worst_X7_refused
set_option maxRecDepth 20000 in
theorem ggX7_worst_X4_hasDraw : GoodIn wsX7_worst wsX4_hasDraw := goodIn_r _ [24, 25, 102, 103, 104, 105, 106, 107, 108, 109] (by decide +kernel) (by decide +kernel)
set_option maxRecDepth 20000 in
theorem gX7_worst_X4_hasDraw_n238 : GoodIn wsX7_worst (wsX4_hasDraw) := ggX7_worst_X4_hasDraw
set_option maxRecDepth 20000 in
theorem ggX7_worst_X7_tally : GoodIn wsX7_worst wsX7_tally := goodIn_r _ [29, 30, 2, 1, 31, 32, 33, 34, 35, 36, 37, 38, 39, 40, 41, 42, 43, 44, 45, 46, 47, 48, 49, 50, 51, 52, 53, 54, 55, 56, 57, 58, 59, 91, 92, 93, 94, 95, 96, 97, 98, 99, 100, 101, 110, 111, 112, 113, 114, 115, 116, 117, 118, 119, 120, 121, 122, 102, 103, 104, 105, 106, 107, 108, 109] (by decide +kernel) (by decide +kernel)
set_option maxRecDepth 20000 in
theorem gX7_worst_X7_tally : GoodIn wsX7_worst (wsV RX7 208 RX7 yX7_tally wsX7_tally) := goodIn_app (goodIn_of _ (by decide +kernel)) ggX7_worst_X7_tally
set_option maxRecDepth 20000 in
theorem ggX7_worst_X2_tellWorst : GoodIn wsX7_worst wsX2_tellWorst := goodIn_r _ [62, 49, 51, 63, 64, 65, 66, 67, 68, 69, 70, 71, 72, 73, 74, 75, 76, 77, 78, 79, 80, 81, 82, 83, 102, 103, 104, 105, 106, 107, 108, 109, 119, 120, 121, 122, 123, 124] (by decide +kernel) (by decide +kernel)
set_option maxRecDepth 20000 in
theorem gX7_worst_X2_tellWorst_n242 : GoodIn wsX7_worst (wsX2_tellWorst) := ggX7_worst_X2_tellWorst
set_option maxRecDepth 20000 in
theorem ggX7_worst_X0_sign : GoodIn wsX7_worst wsX0_sign := goodIn_r _ [86, 67, 123, 124] (by decide +kernel) (by decide +kernel)
set_option maxRecDepth 20000 in
theorem gX7_worst_X0_sign_n175 : GoodIn wsX7_worst (wsX0_sign) := ggX7_worst_X0_sign
set_option maxRecDepth 20000 in
theorem ggX7_worst_X7_answered : GoodIn wsX7_worst wsX7_answered := goodIn_r _ [90, 20, 91, 92, 93, 94, 95, 96, 97, 98, 99, 100, 101] (by decide +kernel) (by decide +kernel)
set_option maxRecDepth 20000 in
theorem gX7_worst_X7_answered : GoodIn wsX7_worst (wsV RX7 137 RX7 yX7_answered wsX7_answered) := goodIn_app (goodIn_of _ (by decide +kernel)) ggX7_worst_X7_answered
theorem dX7_worst_0 : decode cX7_worst 0 = .ok (.aload_n 0, 1) := by decide +kernel
theorem dX7_worst_1 : decode cX7_worst 1 = .ok (.iload_n 1, 1) := by decide +kernel
theorem dX7_worst_2 : decode cX7_worst 2 = .ok (.invokevirtual 235, 3) := by decide +kernel
theorem dX7_worst_5 : decode cX7_worst 5 = .ok (.ifCond .eq 10, 3) := by decide +kernel
theorem dX7_worst_8 : decode cX7_worst 8 = .ok (.iload_n 2, 1) := by decide +kernel
theorem dX7_worst_9 : decode cX7_worst 9 = .ok (.invokestatic 202, 3) := by decide +kernel
theorem dX7_worst_12 : decode cX7_worst 12 = .ok (.ifCond .ne 9, 3) := by decide +kernel
theorem dX7_worst_15 : decode cX7_worst 15 = .ok (.aload_n 0, 1) := by decide +kernel
theorem dX7_worst_16 : decode cX7_worst 16 = .ok (.iconst 1, 1) := by decide +kernel
theorem dX7_worst_17 : decode cX7_worst 17 = .ok (.invokevirtual 101, 3) := by decide +kernel
theorem dX7_worst_20 : decode cX7_worst 20 = .ok (.ireturn, 1) := by decide +kernel
theorem dX7_worst_21 : decode cX7_worst 21 = .ok (.aload_n 0, 1) := by decide +kernel
theorem dX7_worst_22 : decode cX7_worst 22 = .ok (.getfield 19, 3) := by decide +kernel
theorem dX7_worst_25 : decode cX7_worst 25 = .ok (.invokevirtual 238, 3) := by decide +kernel
theorem dX7_worst_28 : decode cX7_worst 28 = .ok (.ifCond .ne 9, 3) := by decide +kernel
theorem dX7_worst_31 : decode cX7_worst 31 = .ok (.aload_n 0, 1) := by decide +kernel
theorem dX7_worst_32 : decode cX7_worst 32 = .ok (.iconst 5, 1) := by decide +kernel
theorem dX7_worst_33 : decode cX7_worst 33 = .ok (.invokevirtual 101, 3) := by decide +kernel
theorem dX7_worst_36 : decode cX7_worst 36 = .ok (.ireturn, 1) := by decide +kernel
theorem dX7_worst_37 : decode cX7_worst 37 = .ok (.aload_n 0, 1) := by decide +kernel
theorem dX7_worst_38 : decode cX7_worst 38 = .ok (.iload_n 1, 1) := by decide +kernel
theorem dX7_worst_39 : decode cX7_worst 39 = .ok (.iconst (-1), 1) := by decide +kernel
theorem dX7_worst_40 : decode cX7_worst 40 = .ok (.iload_n 2, 1) := by decide +kernel
theorem dX7_worst_41 : decode cX7_worst 41 = .ok (.invokevirtual 208, 3) := by decide +kernel
theorem dX7_worst_44 : decode cX7_worst 44 = .ok (.aload_n 0, 1) := by decide +kernel
theorem dX7_worst_45 : decode cX7_worst 45 = .ok (.getfield 40, 3) := by decide +kernel
theorem dX7_worst_48 : decode cX7_worst 48 = .ok (.aload_n 0, 1) := by decide +kernel
theorem dX7_worst_49 : decode cX7_worst 49 = .ok (.getfield 19, 3) := by decide +kernel
theorem dX7_worst_52 : decode cX7_worst 52 = .ok (.iload_n 3, 1) := by decide +kernel
theorem dX7_worst_53 : decode cX7_worst 53 = .ok (.aload_n 0, 1) := by decide +kernel
theorem dX7_worst_54 : decode cX7_worst 54 = .ok (.getfield 54, 3) := by decide +kernel
theorem dX7_worst_57 : decode cX7_worst 57 = .ok (.invokevirtual 242, 3) := by decide +kernel
theorem dX7_worst_60 : decode cX7_worst 60 = .ok (.aload_n 0, 1) := by decide +kernel
theorem dX7_worst_61 : decode cX7_worst 61 = .ok (.aload_n 0, 1) := by decide +kernel
theorem dX7_worst_62 : decode cX7_worst 62 = .ok (.getfield 54, 3) := by decide +kernel
theorem dX7_worst_65 : decode cX7_worst 65 = .ok (.invokevirtual 175, 3) := by decide +kernel
theorem dX7_worst_68 : decode cX7_worst 68 = .ok (.invokevirtual 137, 3) := by decide +kernel
theorem dX7_worst_71 : decode cX7_worst 71 = .ok (.ireturn, 1) := by decide +kernel
set_option maxRecDepth 20000 in
theorem ggX7_ahead_X7_refused : GoodIn wsX7_ahead wsX7_refused := goodIn_r _ [5, 6, 114, 115, 116, 117, 118, 119, 120, 121, 122, 123, 124] (by decide +kernel) (by decide +kernel)
set_option maxRecDepth 20000 in
theorem gX7_ahead_X7_refused : GoodIn wsX7_ahead (wsV RX7 101 RX7 yX7_refused wsX7_refused) := goodIn_app (goodIn_of _ (by decide +kernel)) ggX7_ahead_X7_refused
set_option maxRecDepth 20000 in
theorem ggX7_ahead_X7_whyNoTally : GoodIn wsX7_ahead wsX7_whyNoTally := goodIn_r _ [10, 11, 12, 13, 14, 15, 4, 16, 17, 18, 19, 20, 21, 22, 23, 24, 25, 26, 27, 28, 29, 30, 31, 32, 33, 34, 35, 36, 37, 38, 39, 40, 41, 42, 43, 44, 45, 46, 47, 48, 49, 50, 51, 52, 53, 54, 55, 56, 57, 58, 59, 60, 61, 62, 63, 64, 65, 114, 115, 116, 117, 118, 119, 120, 121, 122, 123, 124, 125, 126, 127, 128, 129, 130, 131, 132, 133, 134, 135, 136, 137, 138, 139, 140, 141, 142, 143, 144, 145] (by decide +kernel) (by decide +kernel)
set_option maxRecDepth 20000 in
theorem gX7_ahead_X7_whyNoTally : GoodIn wsX7_ahead (wsV RX7 214 RX7 yX7_whyNoTally wsX7_whyNoTally) := goodIn_app (goodIn_of _ (by decide +kernel)) ggX7_ahead_X7_whyNoTally
set_option maxRecDepth 20000 in
theorem ggX7_ahead_X7_isTallyAhead : GoodIn wsX7_ahead wsX7_isTallyAhead := goodIn_r _ [69, 11, 12, 70, 71, 72, 73, 43, 74, 75, 46, 47, 76, 77, 78, 79, 80, 81, 82, 83, 84, 85, 86, 87, 88, 89, 90, 91, 92, 93, 94, 95, 96, 97, 98, 99, 100, 101, 102, 48, 114, 115, 116, 117, 118, 119, 120, 121, 122, 123, 124, 146, 147, 138, 139, 140, 141, 142, 143, 144, 145, 134, 135, 136, 137] (by decide +kernel) (by decide +kernel)
set_option maxRecDepth 20000 in
theorem gX7_ahead_X7_isTallyAhead : GoodIn wsX7_ahead (wsV RX7 246 RX7 yX7_isTallyAhead wsX7_isTallyAhead) := goodIn_app (goodIn_of _ (by decide +kernel)) ggX7_ahead_X7_isTallyAhead
set_option maxRecDepth 20000 in
theorem ggX7_ahead_X7_answered : GoodIn wsX7_ahead wsX7_answered := goodIn_r _ [106, 6, 114, 115, 116, 117, 118, 119, 120, 121, 122, 123, 124] (by decide +kernel) (by decide +kernel)
set_option maxRecDepth 20000 in
theorem gX7_ahead_X7_answered : GoodIn wsX7_ahead (wsV RX7 137 RX7 yX7_answered wsX7_answered) := goodIn_app (goodIn_of _ (by decide +kernel)) ggX7_ahead_X7_answered
set_option maxRecDepth 20000 in
theorem ggX7_ahead_X7_isLowAboveHigh : GoodIn wsX7_ahead wsX7_isLowAboveHigh := goodIn_r _ [110, 11, 12, 70, 71, 24, 25, 26, 4, 27, 28, 29, 30, 31, 32, 33, 34, 35, 36, 37, 38, 39, 40, 41, 42, 43, 44, 45, 46, 47, 48, 49, 50, 51, 52, 53, 54, 55, 56, 57, 111, 112, 113, 76, 77, 78, 79, 80, 81, 82, 83, 84, 85, 86, 87, 88, 89, 90, 91, 92, 93, 94, 95, 96, 97, 98, 99, 114, 115, 116, 117, 118, 119, 120, 121, 122, 123, 124, 146, 147, 125, 126, 127, 128, 129, 130, 131, 132, 133, 134, 135, 136, 137, 138, 139, 140, 141, 142, 143, 144, 145] (by decide +kernel) (by decide +kernel)
set_option maxRecDepth 20000 in
theorem gX7_ahead_X7_isLowAboveHigh : GoodIn wsX7_ahead (wsV RX7 249 RX7 yX7_isLowAboveHigh wsX7_isLowAboveHigh) := goodIn_app (goodIn_of _ (by decide +kernel)) ggX7_ahead_X7_isLowAboveHigh
theorem dX7_ahead_0 : decode cX7_ahead 0 = .ok (.iload_n 2, 1) := by decide +kernel
theorem dX7_ahead_1 : decode cX7_ahead 1 = .ok (.iconst (-1), 1) := by decide +kernel
theorem dX7_ahead_2 : decode cX7_ahead 2 = .ok (.if_icmp .ne 9, 3) := by decide +kernel
theorem dX7_ahead_5 : decode cX7_ahead 5 = .ok (.aload_n 0, 1) := by decide +kernel
theorem dX7_ahead_6 : decode cX7_ahead 6 = .ok (.iconst 1, 1) := by decide +kernel
theorem dX7_ahead_7 : decode cX7_ahead 7 = .ok (.invokevirtual 101, 3) := by decide +kernel
theorem dX7_ahead_10 : decode cX7_ahead 10 = .ok (.ireturn, 1) := by decide +kernel
theorem dX7_ahead_11 : decode cX7_ahead 11 = .ok (.aload_n 0, 1) := by decide +kernel
theorem dX7_ahead_12 : decode cX7_ahead 12 = .ok (.iload_n 1, 1) := by decide +kernel
theorem dX7_ahead_13 : decode cX7_ahead 13 = .ok (.iload_n 2, 1) := by decide +kernel
theorem dX7_ahead_14 : decode cX7_ahead 14 = .ok (.iload_n 3, 1) := by decide +kernel
theorem dX7_ahead_15 : decode cX7_ahead 15 = .ok (.iconst 2, 1) := by decide +kernel
theorem dX7_ahead_16 : decode cX7_ahead 16 = .ok (.invokevirtual 214, 3) := by decide +kernel
theorem dX7_ahead_19 : decode cX7_ahead 19 = .ok (.istore 4, 2) := by decide +kernel
theorem dX7_ahead_21 : decode cX7_ahead 21 = .ok (.iload 4, 2) := by decide +kernel
theorem dX7_ahead_23 : decode cX7_ahead 23 = .ok (.ifCond .eq 10, 3) := by decide +kernel
theorem dX7_ahead_26 : decode cX7_ahead 26 = .ok (.aload_n 0, 1) := by decide +kernel
theorem dX7_ahead_27 : decode cX7_ahead 27 = .ok (.iload 4, 2) := by decide +kernel
theorem dX7_ahead_29 : decode cX7_ahead 29 = .ok (.invokevirtual 101, 3) := by decide +kernel
theorem dX7_ahead_32 : decode cX7_ahead 32 = .ok (.ireturn, 1) := by decide +kernel
theorem dX7_ahead_33 : decode cX7_ahead 33 = .ok (.aload_n 0, 1) := by decide +kernel
theorem dX7_ahead_34 : decode cX7_ahead 34 = .ok (.invokevirtual 246, 3) := by decide +kernel
theorem dX7_ahead_37 : decode cX7_ahead 37 = .ok (.ifCond .ne 9, 3) := by decide +kernel
theorem dX7_ahead_40 : decode cX7_ahead 40 = .ok (.aload_n 0, 1) := by decide +kernel
theorem dX7_ahead_41 : decode cX7_ahead 41 = .ok (.iconst 0, 1) := by decide +kernel
theorem dX7_ahead_42 : decode cX7_ahead 42 = .ok (.invokevirtual 137, 3) := by decide +kernel
theorem dX7_ahead_45 : decode cX7_ahead 45 = .ok (.ireturn, 1) := by decide +kernel
theorem dX7_ahead_46 : decode cX7_ahead 46 = .ok (.aload_n 0, 1) := by decide +kernel
theorem dX7_ahead_47 : decode cX7_ahead 47 = .ok (.aload_n 0, 1) := by decide +kernel
theorem dX7_ahead_48 : decode cX7_ahead 48 = .ok (.iload_n 1, 1) := by decide +kernel
theorem dX7_ahead_49 : decode cX7_ahead 49 = .ok (.iload_n 2, 1) := by decide +kernel
theorem dX7_ahead_50 : decode cX7_ahead 50 = .ok (.iload_n 3, 1) := by decide +kernel
theorem dX7_ahead_51 : decode cX7_ahead 51 = .ok (.invokevirtual 249, 3) := by decide +kernel
theorem dX7_ahead_54 : decode cX7_ahead 54 = .ok (.ifCond .eq 7, 3) := by decide +kernel
theorem dX7_ahead_57 : decode cX7_ahead 57 = .ok (.iconst 2, 1) := by decide +kernel
theorem dX7_ahead_58 : decode cX7_ahead 58 = .ok (.goto 4, 3) := by decide +kernel
theorem dX7_ahead_61 : decode cX7_ahead 61 = .ok (.iconst 1, 1) := by decide +kernel
theorem dX7_ahead_62 : decode cX7_ahead 62 = .ok (.invokevirtual 137, 3) := by decide +kernel
theorem dX7_ahead_65 : decode cX7_ahead 65 = .ok (.ireturn, 1) := by decide +kernel
set_option maxRecDepth 20000 in
theorem ggX7_official_X7_isPoll : GoodIn wsX7_official wsX7_isPoll := goodIn_r _ [8, 9, 10, 11, 7, 12, 50, 51, 52, 53, 54, 55, 56, 57, 58, 59, 60, 61, 62, 63, 64, 65, 66, 67, 68] (by decide +kernel) (by decide +kernel)
set_option maxRecDepth 20000 in
theorem gX7_official_X7_isPoll : GoodIn wsX7_official (wsV RX7 147 RX7 yX7_isPoll wsX7_isPoll) := goodIn_app (goodIn_of _ (by decide +kernel)) ggX7_official_X7_isPoll
set_option maxRecDepth 20000 in
theorem ggX7_official_X7_isTray : GoodIn wsX7_official wsX7_isTray := goodIn_r _ [15, 10, 11, 7, 12] (by decide +kernel) (by decide +kernel)
set_option maxRecDepth 20000 in
theorem gX7_official_X7_isTray : GoodIn wsX7_official (va_wsS RX7 78 yX7_isTray wsX7_isTray) := goodIn_app (goodIn_of _ (by decide +kernel)) ggX7_official_X7_isTray
set_option maxRecDepth 20000 in
theorem ggX7_official_X7_isDone : GoodIn wsX7_official wsX7_isDone := goodIn_r _ [19, 20, 50, 51, 52, 53, 54, 55, 56, 57, 58, 59, 60] (by decide +kernel) (by decide +kernel)
set_option maxRecDepth 20000 in
theorem gX7_official_X7_isDone : GoodIn wsX7_official (wsV RX7 86 RX7 yX7_isDone wsX7_isDone) := goodIn_app (goodIn_of _ (by decide +kernel)) ggX7_official_X7_isDone
set_option maxRecDepth 20000 in
theorem ggX7_official_X7_whyNoVotes : GoodIn wsX7_official wsX7_whyNoVotes := goodIn_r _ [24, 3, 25, 26, 27, 28, 29, 30, 31, 32, 33, 34, 35, 36, 37, 38, 39, 40, 41, 42, 50, 51, 52, 53, 54, 55, 56, 57, 58, 59, 60, 69, 70, 71] (by decide +kernel) (by decide +kernel)
set_option maxRecDepth 20000 in
theorem gX7_official_X7_whyNoVotes : GoodIn wsX7_official (wsV RX7 252 RX7 yX7_whyNoVotes wsX7_whyNoVotes) := goodIn_app (goodIn_of _ (by decide +kernel)) ggX7_official_X7_whyNoVotes
set_option maxRecDepth 20000 in
theorem ggX7_official_X3_put : GoodIn wsX7_official wsX3_put := goodIn_r _ [46, 47, 48, 49, 39, 26, 40, 41, 42, 72, 73, 74, 75, 76, 77, 69, 70, 71] (by decide +kernel) (by decide +kernel)
set_option maxRecDepth 20000 in
theorem gX7_official_X3_put_n255 : GoodIn wsX7_official (wsX3_put) := ggX7_official_X3_put
theorem dX7_official_0 : decode cX7_official 0 = .ok (.aload_n 0, 1) := by decide +kernel
theorem dX7_official_1 : decode cX7_official 1 = .ok (.iload_n 1, 1) := by decide +kernel
theorem dX7_official_2 : decode cX7_official 2 = .ok (.invokevirtual 147, 3) := by decide +kernel
theorem dX7_official_5 : decode cX7_official 5 = .ok (.ifCond .eq 10, 3) := by decide +kernel
theorem dX7_official_8 : decode cX7_official 8 = .ok (.iload_n 2, 1) := by decide +kernel
theorem dX7_official_9 : decode cX7_official 9 = .ok (.invokestatic 78, 3) := by decide +kernel
theorem dX7_official_12 : decode cX7_official 12 = .ok (.ifCond .ne 9, 3) := by decide +kernel
theorem dX7_official_15 : decode cX7_official 15 = .ok (.aload_n 0, 1) := by decide +kernel
theorem dX7_official_16 : decode cX7_official 16 = .ok (.iconst 1, 1) := by decide +kernel
theorem dX7_official_17 : decode cX7_official 17 = .ok (.invokevirtual 86, 3) := by decide +kernel
theorem dX7_official_20 : decode cX7_official 20 = .ok (.ireturn, 1) := by decide +kernel
theorem dX7_official_21 : decode cX7_official 21 = .ok (.aload_n 0, 1) := by decide +kernel
theorem dX7_official_22 : decode cX7_official 22 = .ok (.iload_n 2, 1) := by decide +kernel
theorem dX7_official_23 : decode cX7_official 23 = .ok (.aload_n 0, 1) := by decide +kernel
theorem dX7_official_24 : decode cX7_official 24 = .ok (.getfield 64, 3) := by decide +kernel
theorem dX7_official_27 : decode cX7_official 27 = .ok (.invokevirtual 252, 3) := by decide +kernel
theorem dX7_official_30 : decode cX7_official 30 = .ok (.istore_n 3, 1) := by decide +kernel
theorem dX7_official_31 : decode cX7_official 31 = .ok (.iload_n 3, 1) := by decide +kernel
theorem dX7_official_32 : decode cX7_official 32 = .ok (.ifCond .ne 20, 3) := by decide +kernel
theorem dX7_official_35 : decode cX7_official 35 = .ok (.aload_n 0, 1) := by decide +kernel
theorem dX7_official_36 : decode cX7_official 36 = .ok (.getfield 47, 3) := by decide +kernel
theorem dX7_official_39 : decode cX7_official 39 = .ok (.iload_n 1, 1) := by decide +kernel
theorem dX7_official_40 : decode cX7_official 40 = .ok (.aload_n 0, 1) := by decide +kernel
theorem dX7_official_41 : decode cX7_official 41 = .ok (.getfield 12, 3) := by decide +kernel
theorem dX7_official_44 : decode cX7_official 44 = .ok (.iload_n 2, 1) := by decide +kernel
theorem dX7_official_45 : decode cX7_official 45 = .ok (.aload_n 0, 1) := by decide +kernel
theorem dX7_official_46 : decode cX7_official 46 = .ok (.getfield 64, 3) := by decide +kernel
theorem dX7_official_49 : decode cX7_official 49 = .ok (.invokevirtual 255, 3) := by decide +kernel
theorem dX7_official_52 : decode cX7_official 52 = .ok (.aload_n 0, 1) := by decide +kernel
theorem dX7_official_53 : decode cX7_official 53 = .ok (.iload_n 3, 1) := by decide +kernel
theorem dX7_official_54 : decode cX7_official 54 = .ok (.invokevirtual 86, 3) := by decide +kernel
theorem dX7_official_57 : decode cX7_official 57 = .ok (.ireturn, 1) := by decide +kernel
set_option maxRecDepth 20000 in
theorem ggX7_off_X7_isPoll : GoodIn wsX7_off wsX7_isPoll := goodIn_r _ [7, 8, 9, 10, 6, 11, 50, 51, 52, 53, 54, 55, 56, 57, 58, 59, 60, 67, 68, 69, 70, 71, 72, 73, 74] (by decide +kernel) (by decide +kernel)
set_option maxRecDepth 20000 in
theorem gX7_off_X7_isPoll : GoodIn wsX7_off (wsV RX7 147 RX7 yX7_isPoll wsX7_isPoll) := goodIn_app (goodIn_of _ (by decide +kernel)) ggX7_off_X7_isPoll
set_option maxRecDepth 20000 in
theorem ggX7_off_X7_isParty : GoodIn wsX7_off wsX7_isParty := goodIn_r _ [15, 16, 9, 10, 6, 11, 50, 51, 52, 53, 54, 55, 56, 57, 58, 59, 60] (by decide +kernel) (by decide +kernel)
set_option maxRecDepth 20000 in
theorem gX7_off_X7_isParty : GoodIn wsX7_off (wsV RX7 235 RX7 yX7_isParty wsX7_isParty) := goodIn_app (goodIn_of _ (by decide +kernel)) ggX7_off_X7_isParty
set_option maxRecDepth 20000 in
theorem ggX7_off_X7_isMinute : GoodIn wsX7_off wsX7_isMinute := goodIn_r _ [19, 9, 10, 6, 11] (by decide +kernel) (by decide +kernel)
set_option maxRecDepth 20000 in
theorem gX7_off_X7_isMinute : GoodIn wsX7_off (va_wsS RX7 202 yX7_isMinute wsX7_isMinute) := goodIn_app (goodIn_of _ (by decide +kernel)) ggX7_off_X7_isMinute
set_option maxRecDepth 20000 in
theorem ggX7_off_X7_refused : GoodIn wsX7_off wsX7_refused := goodIn_r _ [23, 24, 50, 51, 52, 53, 54, 55, 56, 57, 58, 59, 60] (by decide +kernel) (by decide +kernel)
set_option maxRecDepth 20000 in
theorem gX7_off_X7_refused : GoodIn wsX7_off (wsV RX7 101 RX7 yX7_refused wsX7_refused) := goodIn_app (goodIn_of _ (by decide +kernel)) ggX7_off_X7_refused
set_option maxRecDepth 20000 in
theorem ggX7_off_X5_findKnownOf : GoodIn wsX7_off wsX5_findKnownOf := goodIn_r _ [28, 29, 30, 31, 32, 33, 26, 34, 35, 36, 75, 76, 77, 78, 79, 80, 81, 82, 83] (by decide +kernel) (by decide +kernel)
set_option maxRecDepth 20000 in
theorem gX7_off_X5_findKnownOf_n205 : GoodIn wsX7_off (wsX5_findKnownOf) := ggX7_off_X5_findKnownOf
set_option maxRecDepth 20000 in
theorem ggX7_off_X3_votesOf : GoodIn wsX7_off wsX3_votesOf := goodIn_r _ [40, 41, 61, 62, 63, 64, 65, 66] (by decide +kernel) (by decide +kernel)
set_option maxRecDepth 20000 in
theorem gX7_off_X3_votesOf_n261 : GoodIn wsX7_off (wsX3_votesOf) := ggX7_off_X3_votesOf
set_option maxRecDepth 20000 in
theorem ggX7_off_X5_numberOf : GoodIn wsX7_off wsX5_numberOf := goodIn_r _ [44, 45, 75, 76, 77, 78, 79, 80, 81, 82, 83] (by decide +kernel) (by decide +kernel)
set_option maxRecDepth 20000 in
theorem gX7_off_X5_numberOf_n264 : GoodIn wsX7_off (wsX5_numberOf) := ggX7_off_X5_numberOf
set_option maxRecDepth 20000 in
theorem ggX7_off_X7_answered : GoodIn wsX7_off wsX7_answered := goodIn_r _ [49, 24, 50, 51, 52, 53, 54, 55, 56, 57, 58, 59, 60] (by decide +kernel) (by decide +kernel)
set_option maxRecDepth 20000 in
theorem gX7_off_X7_answered : GoodIn wsX7_off (wsV RX7 137 RX7 yX7_answered wsX7_answered) := goodIn_app (goodIn_of _ (by decide +kernel)) ggX7_off_X7_answered
theorem dX7_off_0 : decode cX7_off 0 = .ok (.aload_n 0, 1) := by decide +kernel
theorem dX7_off_1 : decode cX7_off 1 = .ok (.iload_n 1, 1) := by decide +kernel
theorem dX7_off_2 : decode cX7_off 2 = .ok (.invokevirtual 147, 3) := by decide +kernel
theorem dX7_off_5 : decode cX7_off 5 = .ok (.ifCond .eq 18, 3) := by decide +kernel
theorem dX7_off_8 : decode cX7_off 8 = .ok (.aload_n 0, 1) := by decide +kernel
theorem dX7_off_9 : decode cX7_off 9 = .ok (.iload_n 2, 1) := by decide +kernel
theorem dX7_off_10 : decode cX7_off 10 = .ok (.invokevirtual 235, 3) := by decide +kernel
theorem dX7_off_13 : decode cX7_off 13 = .ok (.ifCond .eq 10, 3) := by decide +kernel
theorem dX7_off_16 : decode cX7_off 16 = .ok (.iload_n 3, 1) := by decide +kernel
theorem dX7_off_17 : decode cX7_off 17 = .ok (.invokestatic 202, 3) := by decide +kernel
theorem dX7_off_20 : decode cX7_off 20 = .ok (.ifCond .ne 9, 3) := by decide +kernel
theorem dX7_off_23 : decode cX7_off 23 = .ok (.aload_n 0, 1) := by decide +kernel
theorem dX7_off_24 : decode cX7_off 24 = .ok (.iconst 1, 1) := by decide +kernel
theorem dX7_off_25 : decode cX7_off 25 = .ok (.invokevirtual 101, 3) := by decide +kernel
theorem dX7_off_28 : decode cX7_off 28 = .ok (.ireturn, 1) := by decide +kernel
theorem dX7_off_29 : decode cX7_off 29 = .ok (.aload_n 0, 1) := by decide +kernel
theorem dX7_off_30 : decode cX7_off 30 = .ok (.getfield 26, 3) := by decide +kernel
theorem dX7_off_33 : decode cX7_off 33 = .ok (.iload_n 1, 1) := by decide +kernel
theorem dX7_off_34 : decode cX7_off 34 = .ok (.iload_n 3, 1) := by decide +kernel
theorem dX7_off_35 : decode cX7_off 35 = .ok (.invokevirtual 205, 3) := by decide +kernel
theorem dX7_off_38 : decode cX7_off 38 = .ok (.istore 4, 2) := by decide +kernel
theorem dX7_off_40 : decode cX7_off 40 = .ok (.iload 4, 2) := by decide +kernel
theorem dX7_off_42 : decode cX7_off 42 = .ok (.iconst (-1), 1) := by decide +kernel
theorem dX7_off_43 : decode cX7_off 43 = .ok (.if_icmp .eq 15, 3) := by decide +kernel
theorem dX7_off_46 : decode cX7_off 46 = .ok (.aload_n 0, 1) := by decide +kernel
theorem dX7_off_47 : decode cX7_off 47 = .ok (.getfield 47, 3) := by decide +kernel
theorem dX7_off_50 : decode cX7_off 50 = .ok (.getfield 258, 3) := by decide +kernel
theorem dX7_off_53 : decode cX7_off 53 = .ok (.iload_n 1, 1) := by decide +kernel
theorem dX7_off_54 : decode cX7_off 54 = .ok (.baload, 1) := by decide +kernel
theorem dX7_off_55 : decode cX7_off 55 = .ok (.ifCond .ne 10, 3) := by decide +kernel
theorem dX7_off_58 : decode cX7_off 58 = .ok (.aload_n 0, 1) := by decide +kernel
theorem dX7_off_59 : decode cX7_off 59 = .ok (.bipush 6, 2) := by decide +kernel
theorem dX7_off_61 : decode cX7_off 61 = .ok (.invokevirtual 101, 3) := by decide +kernel
theorem dX7_off_64 : decode cX7_off 64 = .ok (.ireturn, 1) := by decide +kernel
theorem dX7_off_65 : decode cX7_off 65 = .ok (.aload_n 0, 1) := by decide +kernel
theorem dX7_off_66 : decode cX7_off 66 = .ok (.aload_n 0, 1) := by decide +kernel
theorem dX7_off_67 : decode cX7_off 67 = .ok (.getfield 47, 3) := by decide +kernel
theorem dX7_off_70 : decode cX7_off 70 = .ok (.iload_n 1, 1) := by decide +kernel
theorem dX7_off_71 : decode cX7_off 71 = .ok (.iload_n 2, 1) := by decide +kernel
theorem dX7_off_72 : decode cX7_off 72 = .ok (.invokevirtual 261, 3) := by decide +kernel
theorem dX7_off_75 : decode cX7_off 75 = .ok (.aload_n 0, 1) := by decide +kernel
theorem dX7_off_76 : decode cX7_off 76 = .ok (.getfield 26, 3) := by decide +kernel
theorem dX7_off_79 : decode cX7_off 79 = .ok (.iload 4, 2) := by decide +kernel
theorem dX7_off_81 : decode cX7_off 81 = .ok (.iload_n 2, 1) := by decide +kernel
theorem dX7_off_82 : decode cX7_off 82 = .ok (.invokevirtual 264, 3) := by decide +kernel
theorem dX7_off_85 : decode cX7_off 85 = .ok (.isub, 1) := by decide +kernel
theorem dX7_off_86 : decode cX7_off 86 = .ok (.invokevirtual 137, 3) := by decide +kernel
theorem dX7_off_89 : decode cX7_off 89 = .ok (.ireturn, 1) := by decide +kernel
set_option maxRecDepth 20000 in
theorem ggX7_offs_X7_isParty : GoodIn wsX7_offs wsX7_isParty := goodIn_r _ [8, 9, 10, 11, 7, 12, 55, 56, 57, 58, 59, 60, 61, 62, 63, 64, 65] (by decide +kernel) (by decide +kernel)
set_option maxRecDepth 20000 in
theorem gX7_offs_X7_isParty : GoodIn wsX7_offs (wsV RX7 235 RX7 yX7_isParty wsX7_isParty) := goodIn_app (goodIn_of _ (by decide +kernel)) ggX7_offs_X7_isParty
set_option maxRecDepth 20000 in
theorem ggX7_offs_X7_isWithin : GoodIn wsX7_offs wsX7_isWithin := goodIn_r _ [12] (by decide +kernel) (by decide +kernel)
set_option maxRecDepth 20000 in
theorem gX7_offs_X7_isWithin : GoodIn wsX7_offs (va_wsS RX7 82 yX7_isWithin wsX7_isWithin) := goodIn_app (goodIn_of _ (by decide +kernel)) ggX7_offs_X7_isWithin
set_option maxRecDepth 20000 in
theorem ggX7_offs_X7_isMinute : GoodIn wsX7_offs wsX7_isMinute := goodIn_r _ [15, 10, 11, 7, 12] (by decide +kernel) (by decide +kernel)
set_option maxRecDepth 20000 in
theorem gX7_offs_X7_isMinute : GoodIn wsX7_offs (va_wsS RX7 202 yX7_isMinute wsX7_isMinute) := goodIn_app (goodIn_of _ (by decide +kernel)) ggX7_offs_X7_isMinute
set_option maxRecDepth 20000 in
theorem ggX7_offs_X7_refused : GoodIn wsX7_offs wsX7_refused := goodIn_r _ [19, 20, 55, 56, 57, 58, 59, 60, 61, 62, 63, 64, 65] (by decide +kernel) (by decide +kernel)
set_option maxRecDepth 20000 in
theorem gX7_offs_X7_refused : GoodIn wsX7_offs (wsV RX7 101 RX7 yX7_refused wsX7_refused) := goodIn_app (goodIn_of _ (by decide +kernel)) ggX7_offs_X7_refused
set_option maxRecDepth 20000 in
theorem ggX7_offs_X5_findKnown : GoodIn wsX7_offs wsX5_findKnown := goodIn_r _ [24, 25, 26, 27, 28, 29, 30, 22, 31, 32, 33, 80, 81, 82, 83, 84, 85, 86, 87, 88] (by decide +kernel) (by decide +kernel)
set_option maxRecDepth 20000 in
theorem gX7_offs_X5_findKnown_n267 : GoodIn wsX7_offs (wsX5_findKnown) := ggX7_offs_X5_findKnown
set_option maxRecDepth 20000 in
theorem ggX7_offs_X3_compare : GoodIn wsX7_offs wsX3_compare := goodIn_r _ [37, 38, 39, 40, 41, 42, 43, 44, 35, 45, 46, 47, 22, 48, 49, 50, 74, 75, 76, 77, 78, 79, 80, 81, 82, 83, 84, 85, 86, 87, 88] (by decide +kernel) (by decide +kernel)
set_option maxRecDepth 20000 in
theorem gX7_offs_X3_compare_n271 : GoodIn wsX7_offs (wsX3_compare) := ggX7_offs_X3_compare
set_option maxRecDepth 20000 in
theorem ggX7_offs_X7_answered : GoodIn wsX7_offs wsX7_answered := goodIn_r _ [54, 20, 55, 56, 57, 58, 59, 60, 61, 62, 63, 64, 65] (by decide +kernel) (by decide +kernel)
set_option maxRecDepth 20000 in
theorem gX7_offs_X7_answered : GoodIn wsX7_offs (wsV RX7 137 RX7 yX7_answered wsX7_answered) := goodIn_app (goodIn_of _ (by decide +kernel)) ggX7_offs_X7_answered
theorem dX7_offs_0 : decode cX7_offs 0 = .ok (.aload_n 0, 1) := by decide +kernel
theorem dX7_offs_1 : decode cX7_offs 1 = .ok (.iload_n 1, 1) := by decide +kernel
theorem dX7_offs_2 : decode cX7_offs 2 = .ok (.invokevirtual 235, 3) := by decide +kernel
theorem dX7_offs_5 : decode cX7_offs 5 = .ok (.ifCond .eq 19, 3) := by decide +kernel
theorem dX7_offs_8 : decode cX7_offs 8 = .ok (.iload_n 2, 1) := by decide +kernel
theorem dX7_offs_9 : decode cX7_offs 9 = .ok (.iconst 0, 1) := by decide +kernel
theorem dX7_offs_10 : decode cX7_offs 10 = .ok (.iconst 2, 1) := by decide +kernel
theorem dX7_offs_11 : decode cX7_offs 11 = .ok (.invokestatic 82, 3) := by decide +kernel
theorem dX7_offs_14 : decode cX7_offs 14 = .ok (.ifCond .eq 10, 3) := by decide +kernel
theorem dX7_offs_17 : decode cX7_offs 17 = .ok (.iload_n 3, 1) := by decide +kernel
theorem dX7_offs_18 : decode cX7_offs 18 = .ok (.invokestatic 202, 3) := by decide +kernel
theorem dX7_offs_21 : decode cX7_offs 21 = .ok (.ifCond .ne 9, 3) := by decide +kernel
theorem dX7_offs_24 : decode cX7_offs 24 = .ok (.aload_n 0, 1) := by decide +kernel
theorem dX7_offs_25 : decode cX7_offs 25 = .ok (.iconst 1, 1) := by decide +kernel
theorem dX7_offs_26 : decode cX7_offs 26 = .ok (.invokevirtual 101, 3) := by decide +kernel
theorem dX7_offs_29 : decode cX7_offs 29 = .ok (.ireturn, 1) := by decide +kernel
theorem dX7_offs_30 : decode cX7_offs 30 = .ok (.aload_n 0, 1) := by decide +kernel
theorem dX7_offs_31 : decode cX7_offs 31 = .ok (.getfield 26, 3) := by decide +kernel
theorem dX7_offs_34 : decode cX7_offs 34 = .ok (.iload_n 3, 1) := by decide +kernel
theorem dX7_offs_35 : decode cX7_offs 35 = .ok (.invokevirtual 267, 3) := by decide +kernel
theorem dX7_offs_38 : decode cX7_offs 38 = .ok (.aload_n 0, 1) := by decide +kernel
theorem dX7_offs_39 : decode cX7_offs 39 = .ok (.getfield 47, 3) := by decide +kernel
theorem dX7_offs_42 : decode cX7_offs 42 = .ok (.aload_n 0, 1) := by decide +kernel
theorem dX7_offs_43 : decode cX7_offs 43 = .ok (.getfield 26, 3) := by decide +kernel
theorem dX7_offs_46 : decode cX7_offs 46 = .ok (.aload_n 0, 1) := by decide +kernel
theorem dX7_offs_47 : decode cX7_offs 47 = .ok (.getfield 19, 3) := by decide +kernel
theorem dX7_offs_50 : decode cX7_offs 50 = .ok (.getfield 133, 3) := by decide +kernel
theorem dX7_offs_53 : decode cX7_offs 53 = .ok (.iload_n 1, 1) := by decide +kernel
theorem dX7_offs_54 : decode cX7_offs 54 = .ok (.invokevirtual 271, 3) := by decide +kernel
theorem dX7_offs_57 : decode cX7_offs 57 = .ok (.iload_n 2, 1) := by decide +kernel
theorem dX7_offs_58 : decode cX7_offs 58 = .ok (.ifCond .ne 15, 3) := by decide +kernel
theorem dX7_offs_61 : decode cX7_offs 61 = .ok (.aload_n 0, 1) := by decide +kernel
theorem dX7_offs_62 : decode cX7_offs 62 = .ok (.aload_n 0, 1) := by decide +kernel
theorem dX7_offs_63 : decode cX7_offs 63 = .ok (.getfield 47, 3) := by decide +kernel
theorem dX7_offs_66 : decode cX7_offs 66 = .ok (.getfield 275, 3) := by decide +kernel
theorem dX7_offs_69 : decode cX7_offs 69 = .ok (.invokevirtual 137, 3) := by decide +kernel
theorem dX7_offs_72 : decode cX7_offs 72 = .ok (.ireturn, 1) := by decide +kernel
theorem dX7_offs_73 : decode cX7_offs 73 = .ok (.aload_n 0, 1) := by decide +kernel
theorem dX7_offs_74 : decode cX7_offs 74 = .ok (.iload_n 2, 1) := by decide +kernel
theorem dX7_offs_75 : decode cX7_offs 75 = .ok (.iconst 1, 1) := by decide +kernel
theorem dX7_offs_76 : decode cX7_offs 76 = .ok (.if_icmp .ne 13, 3) := by decide +kernel
theorem dX7_offs_79 : decode cX7_offs 79 = .ok (.aload_n 0, 1) := by decide +kernel
theorem dX7_offs_80 : decode cX7_offs 80 = .ok (.getfield 47, 3) := by decide +kernel
theorem dX7_offs_83 : decode cX7_offs 83 = .ok (.getfield 278, 3) := by decide +kernel
theorem dX7_offs_86 : decode cX7_offs 86 = .ok (.goto 10, 3) := by decide +kernel
theorem dX7_offs_89 : decode cX7_offs 89 = .ok (.aload_n 0, 1) := by decide +kernel
theorem dX7_offs_90 : decode cX7_offs 90 = .ok (.getfield 47, 3) := by decide +kernel
theorem dX7_offs_93 : decode cX7_offs 93 = .ok (.getfield 281, 3) := by decide +kernel
theorem dX7_offs_96 : decode cX7_offs 96 = .ok (.invokevirtual 137, 3) := by decide +kernel
theorem dX7_offs_99 : decode cX7_offs 99 = .ok (.ireturn, 1) := by decide +kernel
set_option maxRecDepth 20000 in
theorem ggX7_lean_X7_isParty : GoodIn wsX7_lean wsX7_isParty := goodIn_r _ [9, 10, 11, 12, 8, 13, 76, 77, 78, 79, 80, 81, 82, 83, 84, 85, 86] (by decide +kernel) (by decide +kernel)
set_option maxRecDepth 20000 in
theorem gX7_lean_X7_isParty : GoodIn wsX7_lean (wsV RX7 235 RX7 yX7_isParty wsX7_isParty) := goodIn_app (goodIn_of _ (by decide +kernel)) ggX7_lean_X7_isParty
set_option maxRecDepth 20000 in
theorem ggX7_lean_X7_isMinute : GoodIn wsX7_lean wsX7_isMinute := goodIn_r _ [16, 11, 12, 8, 13] (by decide +kernel) (by decide +kernel)
set_option maxRecDepth 20000 in
theorem gX7_lean_X7_isMinute : GoodIn wsX7_lean (va_wsS RX7 202 yX7_isMinute wsX7_isMinute) := goodIn_app (goodIn_of _ (by decide +kernel)) ggX7_lean_X7_isMinute
set_option maxRecDepth 20000 in
theorem ggX7_lean_X7_refused : GoodIn wsX7_lean wsX7_refused := goodIn_r _ [20, 21, 76, 77, 78, 79, 80, 81, 82, 83, 84, 85, 86] (by decide +kernel) (by decide +kernel)
set_option maxRecDepth 20000 in
theorem gX7_lean_X7_refused : GoodIn wsX7_lean (wsV RX7 101 RX7 yX7_refused wsX7_refused) := goodIn_app (goodIn_of _ (by decide +kernel)) ggX7_lean_X7_refused
set_option maxRecDepth 20000 in
theorem ggX7_lean_X5_findKnown : GoodIn wsX7_lean wsX5_findKnown := goodIn_r _ [25, 26, 27, 28, 29, 30, 31, 23, 32, 33, 34, 101, 102, 103, 104, 105, 106, 107, 108, 109] (by decide +kernel) (by decide +kernel)
set_option maxRecDepth 20000 in
theorem gX7_lean_X5_findKnown_n267 : GoodIn wsX7_lean (wsX5_findKnown) := ggX7_lean_X5_findKnown
set_option maxRecDepth 20000 in
theorem ggX7_lean_X3_compare : GoodIn wsX7_lean wsX3_compare := goodIn_r _ [38, 39, 40, 41, 42, 43, 44, 45, 36, 46, 47, 48, 23, 49, 50, 51, 95, 96, 97, 98, 99, 100, 101, 102, 103, 104, 105, 106, 107, 108, 109] (by decide +kernel) (by decide +kernel)
set_option maxRecDepth 20000 in
theorem gX7_lean_X3_compare_n271 : GoodIn wsX7_lean (wsX3_compare) := ggX7_lean_X3_compare
set_option maxRecDepth 20000 in
theorem ggX7_lean_X7_waysAtLeast : GoodIn wsX7_lean wsX7_waysAtLeast := goodIn_r _ [54] (by decide +kernel) (by decide +kernel)
set_option maxRecDepth 20000 in
theorem gX7_lean_X7_waysAtLeast : GoodIn wsX7_lean (va_wsS RX7 284 yX7_waysAtLeast wsX7_waysAtLeast) := goodIn_app (goodIn_of _ (by decide +kernel)) ggX7_lean_X7_waysAtLeast
set_option maxRecDepth 20000 in
theorem ggX7_lean_X0_put : GoodIn wsX7_lean wsX0_put := goodIn_r _ [58, 59, 60, 61, 62, 63, 64, 65, 66, 56, 67, 68, 69, 70, 71, 110, 111] (by decide +kernel) (by decide +kernel)
set_option maxRecDepth 20000 in
theorem gX7_lean_X0_put_n172 : GoodIn wsX7_lean (wsX0_put) := ggX7_lean_X0_put
set_option maxRecDepth 20000 in
theorem ggX7_lean_X7_answered : GoodIn wsX7_lean wsX7_answered := goodIn_r _ [75, 21, 76, 77, 78, 79, 80, 81, 82, 83, 84, 85, 86] (by decide +kernel) (by decide +kernel)
set_option maxRecDepth 20000 in
theorem gX7_lean_X7_answered : GoodIn wsX7_lean (wsV RX7 137 RX7 yX7_answered wsX7_answered) := goodIn_app (goodIn_of _ (by decide +kernel)) ggX7_lean_X7_answered
theorem dX7_lean_0 : decode cX7_lean 0 = .ok (.aload_n 0, 1) := by decide +kernel
theorem dX7_lean_1 : decode cX7_lean 1 = .ok (.iload_n 1, 1) := by decide +kernel
theorem dX7_lean_2 : decode cX7_lean 2 = .ok (.invokevirtual 235, 3) := by decide +kernel
theorem dX7_lean_5 : decode cX7_lean 5 = .ok (.ifCond .eq 10, 3) := by decide +kernel
theorem dX7_lean_8 : decode cX7_lean 8 = .ok (.iload_n 2, 1) := by decide +kernel
theorem dX7_lean_9 : decode cX7_lean 9 = .ok (.invokestatic 202, 3) := by decide +kernel
theorem dX7_lean_12 : decode cX7_lean 12 = .ok (.ifCond .ne 9, 3) := by decide +kernel
theorem dX7_lean_15 : decode cX7_lean 15 = .ok (.aload_n 0, 1) := by decide +kernel
theorem dX7_lean_16 : decode cX7_lean 16 = .ok (.iconst 1, 1) := by decide +kernel
theorem dX7_lean_17 : decode cX7_lean 17 = .ok (.invokevirtual 101, 3) := by decide +kernel
theorem dX7_lean_20 : decode cX7_lean 20 = .ok (.ireturn, 1) := by decide +kernel
theorem dX7_lean_21 : decode cX7_lean 21 = .ok (.aload_n 0, 1) := by decide +kernel
theorem dX7_lean_22 : decode cX7_lean 22 = .ok (.getfield 26, 3) := by decide +kernel
theorem dX7_lean_25 : decode cX7_lean 25 = .ok (.iload_n 2, 1) := by decide +kernel
theorem dX7_lean_26 : decode cX7_lean 26 = .ok (.invokevirtual 267, 3) := by decide +kernel
theorem dX7_lean_29 : decode cX7_lean 29 = .ok (.aload_n 0, 1) := by decide +kernel
theorem dX7_lean_30 : decode cX7_lean 30 = .ok (.getfield 47, 3) := by decide +kernel
theorem dX7_lean_33 : decode cX7_lean 33 = .ok (.aload_n 0, 1) := by decide +kernel
theorem dX7_lean_34 : decode cX7_lean 34 = .ok (.getfield 26, 3) := by decide +kernel
theorem dX7_lean_37 : decode cX7_lean 37 = .ok (.aload_n 0, 1) := by decide +kernel
theorem dX7_lean_38 : decode cX7_lean 38 = .ok (.getfield 19, 3) := by decide +kernel
theorem dX7_lean_41 : decode cX7_lean 41 = .ok (.getfield 133, 3) := by decide +kernel
theorem dX7_lean_44 : decode cX7_lean 44 = .ok (.iload_n 1, 1) := by decide +kernel
theorem dX7_lean_45 : decode cX7_lean 45 = .ok (.invokevirtual 271, 3) := by decide +kernel
theorem dX7_lean_48 : decode cX7_lean 48 = .ok (.aload_n 0, 1) := by decide +kernel
theorem dX7_lean_49 : decode cX7_lean 49 = .ok (.getfield 47, 3) := by decide +kernel
theorem dX7_lean_52 : decode cX7_lean 52 = .ok (.getfield 275, 3) := by decide +kernel
theorem dX7_lean_55 : decode cX7_lean 55 = .ok (.istore_n 3, 1) := by decide +kernel
theorem dX7_lean_56 : decode cX7_lean 56 = .ok (.aload_n 0, 1) := by decide +kernel
theorem dX7_lean_57 : decode cX7_lean 57 = .ok (.getfield 54, 3) := by decide +kernel
theorem dX7_lean_60 : decode cX7_lean 60 = .ok (.aload_n 0, 1) := by decide +kernel
theorem dX7_lean_61 : decode cX7_lean 61 = .ok (.getfield 47, 3) := by decide +kernel
theorem dX7_lean_64 : decode cX7_lean 64 = .ok (.getfield 278, 3) := by decide +kernel
theorem dX7_lean_67 : decode cX7_lean 67 = .ok (.iload_n 3, 1) := by decide +kernel
theorem dX7_lean_68 : decode cX7_lean 68 = .ok (.invokestatic 284, 3) := by decide +kernel
theorem dX7_lean_71 : decode cX7_lean 71 = .ok (.lconst 1, 1) := by decide +kernel
theorem dX7_lean_72 : decode cX7_lean 72 = .ok (.iload_n 3, 1) := by decide +kernel
theorem dX7_lean_73 : decode cX7_lean 73 = .ok (.lshl, 1) := by decide +kernel
theorem dX7_lean_74 : decode cX7_lean 74 = .ok (.invokevirtual 172, 3) := by decide +kernel
theorem dX7_lean_77 : decode cX7_lean 77 = .ok (.aload_n 0, 1) := by decide +kernel
theorem dX7_lean_78 : decode cX7_lean 78 = .ok (.iconst 1, 1) := by decide +kernel
theorem dX7_lean_79 : decode cX7_lean 79 = .ok (.invokevirtual 137, 3) := by decide +kernel
theorem dX7_lean_82 : decode cX7_lean 82 = .ok (.ireturn, 1) := by decide +kernel
theorem dX7_isDone_0 : decode cX7_isDone 0 = .ok (.aload_n 0, 1) := by decide +kernel
theorem dX7_isDone_1 : decode cX7_isDone 1 = .ok (.iload_n 1, 1) := by decide +kernel
theorem dX7_isDone_2 : decode cX7_isDone 2 = .ok (.putfield 68, 3) := by decide +kernel
theorem dX7_isDone_5 : decode cX7_isDone 5 = .ok (.iload_n 1, 1) := by decide +kernel
theorem dX7_isDone_6 : decode cX7_isDone 6 = .ok (.ifCond .ne 7, 3) := by decide +kernel
theorem dX7_isDone_9 : decode cX7_isDone 9 = .ok (.iconst 1, 1) := by decide +kernel
theorem dX7_isDone_10 : decode cX7_isDone 10 = .ok (.goto 4, 3) := by decide +kernel
theorem dX7_isDone_13 : decode cX7_isDone 13 = .ok (.iconst 0, 1) := by decide +kernel
theorem dX7_isDone_14 : decode cX7_isDone 14 = .ok (.ireturn, 1) := by decide +kernel
theorem dX7_refused_0 : decode cX7_refused 0 = .ok (.aload_n 0, 1) := by decide +kernel
theorem dX7_refused_1 : decode cX7_refused 1 = .ok (.iload_n 1, 1) := by decide +kernel
theorem dX7_refused_2 : decode cX7_refused 2 = .ok (.putfield 68, 3) := by decide +kernel
theorem dX7_refused_5 : decode cX7_refused 5 = .ok (.iconst (-1), 1) := by decide +kernel
theorem dX7_refused_6 : decode cX7_refused 6 = .ok (.ireturn, 1) := by decide +kernel
theorem dX7_answered_0 : decode cX7_answered 0 = .ok (.aload_n 0, 1) := by decide +kernel
theorem dX7_answered_1 : decode cX7_answered 1 = .ok (.iconst 0, 1) := by decide +kernel
theorem dX7_answered_2 : decode cX7_answered 2 = .ok (.putfield 68, 3) := by decide +kernel
theorem dX7_answered_5 : decode cX7_answered 5 = .ok (.iload_n 1, 1) := by decide +kernel
theorem dX7_answered_6 : decode cX7_answered 6 = .ok (.ireturn, 1) := by decide +kernel
set_option maxRecDepth 20000 in
theorem ggX7_answeredIfAny_X7_refused : GoodIn wsX7_answeredIfAny wsX7_refused := goodIn_r _ [5, 6, 11, 12, 13, 14, 15, 16, 17, 18, 19, 20, 21] (by decide +kernel) (by decide +kernel)
set_option maxRecDepth 20000 in
theorem gX7_answeredIfAny_X7_refused : GoodIn wsX7_answeredIfAny (wsV RX7 101 RX7 yX7_refused wsX7_refused) := goodIn_app (goodIn_of _ (by decide +kernel)) ggX7_answeredIfAny_X7_refused
set_option maxRecDepth 20000 in
theorem ggX7_answeredIfAny_X7_answered : GoodIn wsX7_answeredIfAny wsX7_answered := goodIn_r _ [10, 6, 11, 12, 13, 14, 15, 16, 17, 18, 19, 20, 21] (by decide +kernel) (by decide +kernel)
set_option maxRecDepth 20000 in
theorem gX7_answeredIfAny_X7_answered : GoodIn wsX7_answeredIfAny (wsV RX7 137 RX7 yX7_answered wsX7_answered) := goodIn_app (goodIn_of _ (by decide +kernel)) ggX7_answeredIfAny_X7_answered
theorem dX7_answeredIfAny_0 : decode cX7_answeredIfAny 0 = .ok (.iload_n 1, 1) := by decide +kernel
theorem dX7_answeredIfAny_1 : decode cX7_answeredIfAny 1 = .ok (.iconst (-1), 1) := by decide +kernel
theorem dX7_answeredIfAny_2 : decode cX7_answeredIfAny 2 = .ok (.if_icmp .ne 12, 3) := by decide +kernel
theorem dX7_answeredIfAny_5 : decode cX7_answeredIfAny 5 = .ok (.aload_n 0, 1) := by decide +kernel
theorem dX7_answeredIfAny_6 : decode cX7_answeredIfAny 6 = .ok (.bipush 6, 2) := by decide +kernel
theorem dX7_answeredIfAny_8 : decode cX7_answeredIfAny 8 = .ok (.invokevirtual 101, 3) := by decide +kernel
theorem dX7_answeredIfAny_11 : decode cX7_answeredIfAny 11 = .ok (.goto 8, 3) := by decide +kernel
theorem dX7_answeredIfAny_14 : decode cX7_answeredIfAny 14 = .ok (.aload_n 0, 1) := by decide +kernel
theorem dX7_answeredIfAny_15 : decode cX7_answeredIfAny 15 = .ok (.iload_n 1, 1) := by decide +kernel
theorem dX7_answeredIfAny_16 : decode cX7_answeredIfAny 16 = .ok (.invokevirtual 137, 3) := by decide +kernel
theorem dX7_answeredIfAny_19 : decode cX7_answeredIfAny 19 = .ok (.ireturn, 1) := by decide +kernel
theorem dX7_isWithin_0 : decode cX7_isWithin 0 = .ok (.iload_n 0, 1) := by decide +kernel
theorem dX7_isWithin_1 : decode cX7_isWithin 1 = .ok (.iload_n 1, 1) := by decide +kernel
theorem dX7_isWithin_2 : decode cX7_isWithin 2 = .ok (.if_icmp .lt 12, 3) := by decide +kernel
theorem dX7_isWithin_5 : decode cX7_isWithin 5 = .ok (.iload_n 0, 1) := by decide +kernel
theorem dX7_isWithin_6 : decode cX7_isWithin 6 = .ok (.iload_n 2, 1) := by decide +kernel
theorem dX7_isWithin_7 : decode cX7_isWithin 7 = .ok (.if_icmp .gt 7, 3) := by decide +kernel
theorem dX7_isWithin_10 : decode cX7_isWithin 10 = .ok (.iconst 1, 1) := by decide +kernel
theorem dX7_isWithin_11 : decode cX7_isWithin 11 = .ok (.goto 4, 3) := by decide +kernel
theorem dX7_isWithin_14 : decode cX7_isWithin 14 = .ok (.iconst 0, 1) := by decide +kernel
theorem dX7_isWithin_15 : decode cX7_isWithin 15 = .ok (.ireturn, 1) := by decide +kernel
set_option maxRecDepth 20000 in
theorem ggX7_isTray_X7_isWithin : GoodIn wsX7_isTray wsX7_isWithin := goodIn_r _ [4] (by decide +kernel) (by decide +kernel)
set_option maxRecDepth 20000 in
theorem gX7_isTray_X7_isWithin : GoodIn wsX7_isTray (va_wsS RX7 82 yX7_isWithin wsX7_isWithin) := goodIn_app (goodIn_of _ (by decide +kernel)) ggX7_isTray_X7_isWithin
theorem dX7_isTray_0 : decode cX7_isTray 0 = .ok (.iload_n 0, 1) := by decide +kernel
theorem dX7_isTray_1 : decode cX7_isTray 1 = .ok (.iconst 0, 1) := by decide +kernel
theorem dX7_isTray_2 : decode cX7_isTray 2 = .ok (.iconst 3, 1) := by decide +kernel
theorem dX7_isTray_3 : decode cX7_isTray 3 = .ok (.invokestatic 82, 3) := by decide +kernel
theorem dX7_isTray_6 : decode cX7_isTray 6 = .ok (.ireturn, 1) := by decide +kernel
set_option maxRecDepth 20000 in
theorem ggX7_isLayer_X7_isWithin : GoodIn wsX7_isLayer wsX7_isWithin := goodIn_r _ [4] (by decide +kernel) (by decide +kernel)
set_option maxRecDepth 20000 in
theorem gX7_isLayer_X7_isWithin : GoodIn wsX7_isLayer (va_wsS RX7 82 yX7_isWithin wsX7_isWithin) := goodIn_app (goodIn_of _ (by decide +kernel)) ggX7_isLayer_X7_isWithin
theorem dX7_isLayer_0 : decode cX7_isLayer 0 = .ok (.iload_n 0, 1) := by decide +kernel
theorem dX7_isLayer_1 : decode cX7_isLayer 1 = .ok (.iconst 0, 1) := by decide +kernel
theorem dX7_isLayer_2 : decode cX7_isLayer 2 = .ok (.iconst 3, 1) := by decide +kernel
theorem dX7_isLayer_3 : decode cX7_isLayer 3 = .ok (.invokestatic 82, 3) := by decide +kernel
theorem dX7_isLayer_6 : decode cX7_isLayer 6 = .ok (.ireturn, 1) := by decide +kernel
set_option maxRecDepth 20000 in
theorem ggX7_isMinute_X7_isWithin : GoodIn wsX7_isMinute wsX7_isWithin := goodIn_r _ [4] (by decide +kernel) (by decide +kernel)
set_option maxRecDepth 20000 in
theorem gX7_isMinute_X7_isWithin : GoodIn wsX7_isMinute (va_wsS RX7 82 yX7_isWithin wsX7_isWithin) := goodIn_app (goodIn_of _ (by decide +kernel)) ggX7_isMinute_X7_isWithin
theorem dX7_isMinute_0 : decode cX7_isMinute 0 = .ok (.iload_n 0, 1) := by decide +kernel
theorem dX7_isMinute_1 : decode cX7_isMinute 1 = .ok (.iconst 0, 1) := by decide +kernel
theorem dX7_isMinute_2 : decode cX7_isMinute 2 = .ok (.sipush 10000, 3) := by decide +kernel
theorem dX7_isMinute_5 : decode cX7_isMinute 5 = .ok (.invokestatic 82, 3) := by decide +kernel
theorem dX7_isMinute_8 : decode cX7_isMinute 8 = .ok (.ireturn, 1) := by decide +kernel
set_option maxRecDepth 20000 in
theorem ggX7_isParty_X7_isWithin : GoodIn wsX7_isParty wsX7_isWithin := goodIn_r _ [5] (by decide +kernel) (by decide +kernel)
set_option maxRecDepth 20000 in
theorem gX7_isParty_X7_isWithin : GoodIn wsX7_isParty (va_wsS RX7 82 yX7_isWithin wsX7_isWithin) := goodIn_app (goodIn_of _ (by decide +kernel)) ggX7_isParty_X7_isWithin
theorem dX7_isParty_0 : decode cX7_isParty 0 = .ok (.iload_n 1, 1) := by decide +kernel
theorem dX7_isParty_1 : decode cX7_isParty 1 = .ok (.iconst 0, 1) := by decide +kernel
theorem dX7_isParty_2 : decode cX7_isParty 2 = .ok (.aload_n 0, 1) := by decide +kernel
theorem dX7_isParty_3 : decode cX7_isParty 3 = .ok (.getfield 64, 3) := by decide +kernel
theorem dX7_isParty_6 : decode cX7_isParty 6 = .ok (.iconst 1, 1) := by decide +kernel
theorem dX7_isParty_7 : decode cX7_isParty 7 = .ok (.isub, 1) := by decide +kernel
theorem dX7_isParty_8 : decode cX7_isParty 8 = .ok (.invokestatic 82, 3) := by decide +kernel
theorem dX7_isParty_11 : decode cX7_isParty 11 = .ok (.ireturn, 1) := by decide +kernel
set_option maxRecDepth 20000 in
theorem ggX7_isPoll_X7_isWithin : GoodIn wsX7_isPoll wsX7_isWithin := goodIn_r _ [5] (by decide +kernel) (by decide +kernel)
set_option maxRecDepth 20000 in
theorem gX7_isPoll_X7_isWithin : GoodIn wsX7_isPoll (va_wsS RX7 82 yX7_isWithin wsX7_isWithin) := goodIn_app (goodIn_of _ (by decide +kernel)) ggX7_isPoll_X7_isWithin
theorem dX7_isPoll_0 : decode cX7_isPoll 0 = .ok (.iload_n 1, 1) := by decide +kernel
theorem dX7_isPoll_1 : decode cX7_isPoll 1 = .ok (.iconst 0, 1) := by decide +kernel
theorem dX7_isPoll_2 : decode cX7_isPoll 2 = .ok (.aload_n 0, 1) := by decide +kernel
theorem dX7_isPoll_3 : decode cX7_isPoll 3 = .ok (.getfield 19, 3) := by decide +kernel
theorem dX7_isPoll_6 : decode cX7_isPoll 6 = .ok (.getfield 133, 3) := by decide +kernel
theorem dX7_isPoll_9 : decode cX7_isPoll 9 = .ok (.iconst 1, 1) := by decide +kernel
theorem dX7_isPoll_10 : decode cX7_isPoll 10 = .ok (.isub, 1) := by decide +kernel
theorem dX7_isPoll_11 : decode cX7_isPoll 11 = .ok (.invokestatic 82, 3) := by decide +kernel
theorem dX7_isPoll_14 : decode cX7_isPoll 14 = .ok (.ireturn, 1) := by decide +kernel
set_option maxRecDepth 20000 in
theorem ggX7_isSheet_X7_isWithin : GoodIn wsX7_isSheet wsX7_isWithin := goodIn_r _ [5] (by decide +kernel) (by decide +kernel)
set_option maxRecDepth 20000 in
theorem gX7_isSheet_X7_isWithin : GoodIn wsX7_isSheet (va_wsS RX7 82 yX7_isWithin wsX7_isWithin) := goodIn_app (goodIn_of _ (by decide +kernel)) ggX7_isSheet_X7_isWithin
theorem dX7_isSheet_0 : decode cX7_isSheet 0 = .ok (.iload_n 1, 1) := by decide +kernel
theorem dX7_isSheet_1 : decode cX7_isSheet 1 = .ok (.iconst 0, 1) := by decide +kernel
theorem dX7_isSheet_2 : decode cX7_isSheet 2 = .ok (.aload_n 0, 1) := by decide +kernel
theorem dX7_isSheet_3 : decode cX7_isSheet 3 = .ok (.getfield 26, 3) := by decide +kernel
theorem dX7_isSheet_6 : decode cX7_isSheet 6 = .ok (.getfield 123, 3) := by decide +kernel
theorem dX7_isSheet_9 : decode cX7_isSheet 9 = .ok (.iconst 1, 1) := by decide +kernel
theorem dX7_isSheet_10 : decode cX7_isSheet 10 = .ok (.isub, 1) := by decide +kernel
theorem dX7_isSheet_11 : decode cX7_isSheet 11 = .ok (.invokestatic 82, 3) := by decide +kernel
theorem dX7_isSheet_14 : decode cX7_isSheet 14 = .ok (.ireturn, 1) := by decide +kernel
set_option maxRecDepth 20000 in
theorem ggX7_whyNoTrayPlace_X7_isTray : GoodIn wsX7_whyNoTrayPlace wsX7_isTray := goodIn_r _ [5, 6, 7, 4, 8] (by decide +kernel) (by decide +kernel)
set_option maxRecDepth 20000 in
theorem gX7_whyNoTrayPlace_X7_isTray : GoodIn wsX7_whyNoTrayPlace (va_wsS RX7 78 yX7_isTray wsX7_isTray) := goodIn_app (goodIn_of _ (by decide +kernel)) ggX7_whyNoTrayPlace_X7_isTray
set_option maxRecDepth 20000 in
theorem ggX7_whyNoTrayPlace_X6_isMissing : GoodIn wsX7_whyNoTrayPlace wsX6_isMissing := goodIn_r _ [12, 13, 29, 30, 31] (by decide +kernel) (by decide +kernel)
set_option maxRecDepth 20000 in
theorem gX7_whyNoTrayPlace_X6_isMissing_n109 : GoodIn wsX7_whyNoTrayPlace (wsX6_isMissing) := ggX7_whyNoTrayPlace_X6_isMissing
set_option maxRecDepth 20000 in
theorem ggX7_whyNoTrayPlace_X6_hasPlace : GoodIn wsX7_whyNoTrayPlace wsX6_hasPlace := goodIn_r _ [16, 17, 29, 30, 31] (by decide +kernel) (by decide +kernel)
set_option maxRecDepth 20000 in
theorem gX7_whyNoTrayPlace_X6_hasPlace_n287 : GoodIn wsX7_whyNoTrayPlace (wsX6_hasPlace) := ggX7_whyNoTrayPlace_X6_hasPlace
theorem dX7_whyNoTrayPlace_0 : decode cX7_whyNoTrayPlace 0 = .ok (.iload_n 1, 1) := by decide +kernel
theorem dX7_whyNoTrayPlace_1 : decode cX7_whyNoTrayPlace 1 = .ok (.invokestatic 78, 3) := by decide +kernel
theorem dX7_whyNoTrayPlace_4 : decode cX7_whyNoTrayPlace 4 = .ok (.ifCond .ne 5, 3) := by decide +kernel
theorem dX7_whyNoTrayPlace_7 : decode cX7_whyNoTrayPlace 7 = .ok (.iconst 1, 1) := by decide +kernel
theorem dX7_whyNoTrayPlace_8 : decode cX7_whyNoTrayPlace 8 = .ok (.ireturn, 1) := by decide +kernel
theorem dX7_whyNoTrayPlace_9 : decode cX7_whyNoTrayPlace 9 = .ok (.aload_n 0, 1) := by decide +kernel
theorem dX7_whyNoTrayPlace_10 : decode cX7_whyNoTrayPlace 10 = .ok (.getfield 12, 3) := by decide +kernel
theorem dX7_whyNoTrayPlace_13 : decode cX7_whyNoTrayPlace 13 = .ok (.iload_n 1, 1) := by decide +kernel
theorem dX7_whyNoTrayPlace_14 : decode cX7_whyNoTrayPlace 14 = .ok (.invokevirtual 109, 3) := by decide +kernel
theorem dX7_whyNoTrayPlace_17 : decode cX7_whyNoTrayPlace 17 = .ok (.ifCond .eq 5, 3) := by decide +kernel
theorem dX7_whyNoTrayPlace_20 : decode cX7_whyNoTrayPlace 20 = .ok (.iconst 3, 1) := by decide +kernel
theorem dX7_whyNoTrayPlace_21 : decode cX7_whyNoTrayPlace 21 = .ok (.ireturn, 1) := by decide +kernel
theorem dX7_whyNoTrayPlace_22 : decode cX7_whyNoTrayPlace 22 = .ok (.aload_n 0, 1) := by decide +kernel
theorem dX7_whyNoTrayPlace_23 : decode cX7_whyNoTrayPlace 23 = .ok (.getfield 12, 3) := by decide +kernel
theorem dX7_whyNoTrayPlace_26 : decode cX7_whyNoTrayPlace 26 = .ok (.iload_n 1, 1) := by decide +kernel
theorem dX7_whyNoTrayPlace_27 : decode cX7_whyNoTrayPlace 27 = .ok (.iload_n 2, 1) := by decide +kernel
theorem dX7_whyNoTrayPlace_28 : decode cX7_whyNoTrayPlace 28 = .ok (.invokevirtual 287, 3) := by decide +kernel
theorem dX7_whyNoTrayPlace_31 : decode cX7_whyNoTrayPlace 31 = .ok (.ifCond .eq 7, 3) := by decide +kernel
theorem dX7_whyNoTrayPlace_34 : decode cX7_whyNoTrayPlace 34 = .ok (.iconst 0, 1) := by decide +kernel
theorem dX7_whyNoTrayPlace_35 : decode cX7_whyNoTrayPlace 35 = .ok (.goto 4, 3) := by decide +kernel
theorem dX7_whyNoTrayPlace_38 : decode cX7_whyNoTrayPlace 38 = .ok (.iconst 4, 1) := by decide +kernel
theorem dX7_whyNoTrayPlace_39 : decode cX7_whyNoTrayPlace 39 = .ok (.ireturn, 1) := by decide +kernel
set_option maxRecDepth 20000 in
theorem ggX7_whyNoVotes_X6_isMissing : GoodIn wsX7_whyNoVotes wsX6_isMissing := goodIn_r _ [5, 6, 31, 32, 33] (by decide +kernel) (by decide +kernel)
set_option maxRecDepth 20000 in
theorem gX7_whyNoVotes_X6_isMissing_n109 : GoodIn wsX7_whyNoVotes (wsX6_isMissing) := ggX7_whyNoVotes_X6_isMissing
set_option maxRecDepth 20000 in
theorem ggX7_whyNoVotes_X6_hasRun : GoodIn wsX7_whyNoVotes wsX6_hasRun := goodIn_r _ [9, 10, 31, 32, 33] (by decide +kernel) (by decide +kernel)
set_option maxRecDepth 20000 in
theorem gX7_whyNoVotes_X6_hasRun_n116 : GoodIn wsX7_whyNoVotes (wsX6_hasRun) := ggX7_whyNoVotes_X6_hasRun
set_option maxRecDepth 20000 in
theorem ggX7_whyNoVotes_X6_startsWithVotes : GoodIn wsX7_whyNoVotes wsX6_startsWithVotes := goodIn_r _ [13, 14, 15, 16, 17, 3, 18, 19, 31, 32, 33] (by decide +kernel) (by decide +kernel)
set_option maxRecDepth 20000 in
theorem gX7_whyNoVotes_X6_startsWithVotes_n290 : GoodIn wsX7_whyNoVotes (wsX6_startsWithVotes) := ggX7_whyNoVotes_X6_startsWithVotes
theorem dX7_whyNoVotes_0 : decode cX7_whyNoVotes 0 = .ok (.aload_n 0, 1) := by decide +kernel
theorem dX7_whyNoVotes_1 : decode cX7_whyNoVotes 1 = .ok (.getfield 12, 3) := by decide +kernel
theorem dX7_whyNoVotes_4 : decode cX7_whyNoVotes 4 = .ok (.iload_n 1, 1) := by decide +kernel
theorem dX7_whyNoVotes_5 : decode cX7_whyNoVotes 5 = .ok (.invokevirtual 109, 3) := by decide +kernel
theorem dX7_whyNoVotes_8 : decode cX7_whyNoVotes 8 = .ok (.ifCond .eq 5, 3) := by decide +kernel
theorem dX7_whyNoVotes_11 : decode cX7_whyNoVotes 11 = .ok (.iconst 3, 1) := by decide +kernel
theorem dX7_whyNoVotes_12 : decode cX7_whyNoVotes 12 = .ok (.ireturn, 1) := by decide +kernel
theorem dX7_whyNoVotes_13 : decode cX7_whyNoVotes 13 = .ok (.aload_n 0, 1) := by decide +kernel
theorem dX7_whyNoVotes_14 : decode cX7_whyNoVotes 14 = .ok (.getfield 12, 3) := by decide +kernel
theorem dX7_whyNoVotes_17 : decode cX7_whyNoVotes 17 = .ok (.iload_n 1, 1) := by decide +kernel
theorem dX7_whyNoVotes_18 : decode cX7_whyNoVotes 18 = .ok (.iconst 0, 1) := by decide +kernel
theorem dX7_whyNoVotes_19 : decode cX7_whyNoVotes 19 = .ok (.iload_n 2, 1) := by decide +kernel
theorem dX7_whyNoVotes_20 : decode cX7_whyNoVotes 20 = .ok (.invokevirtual 116, 3) := by decide +kernel
theorem dX7_whyNoVotes_23 : decode cX7_whyNoVotes 23 = .ok (.ifCond .ne 5, 3) := by decide +kernel
theorem dX7_whyNoVotes_26 : decode cX7_whyNoVotes 26 = .ok (.iconst 4, 1) := by decide +kernel
theorem dX7_whyNoVotes_27 : decode cX7_whyNoVotes 27 = .ok (.ireturn, 1) := by decide +kernel
theorem dX7_whyNoVotes_28 : decode cX7_whyNoVotes 28 = .ok (.aload_n 0, 1) := by decide +kernel
theorem dX7_whyNoVotes_29 : decode cX7_whyNoVotes 29 = .ok (.getfield 12, 3) := by decide +kernel
theorem dX7_whyNoVotes_32 : decode cX7_whyNoVotes 32 = .ok (.iload_n 1, 1) := by decide +kernel
theorem dX7_whyNoVotes_33 : decode cX7_whyNoVotes 33 = .ok (.iload_n 2, 1) := by decide +kernel
theorem dX7_whyNoVotes_34 : decode cX7_whyNoVotes 34 = .ok (.invokevirtual 290, 3) := by decide +kernel
theorem dX7_whyNoVotes_37 : decode cX7_whyNoVotes 37 = .ok (.ifCond .eq 7, 3) := by decide +kernel
theorem dX7_whyNoVotes_40 : decode cX7_whyNoVotes 40 = .ok (.iconst 0, 1) := by decide +kernel
theorem dX7_whyNoVotes_41 : decode cX7_whyNoVotes 41 = .ok (.goto 4, 3) := by decide +kernel
theorem dX7_whyNoVotes_44 : decode cX7_whyNoVotes 44 = .ok (.iconst 1, 1) := by decide +kernel
theorem dX7_whyNoVotes_45 : decode cX7_whyNoVotes 45 = .ok (.ireturn, 1) := by decide +kernel
set_option maxRecDepth 20000 in
theorem ggX7_whyNoSheet_X7_isTray : GoodIn wsX7_whyNoSheet wsX7_isTray := goodIn_r _ [6, 7, 8, 5, 9] (by decide +kernel) (by decide +kernel)
set_option maxRecDepth 20000 in
theorem gX7_whyNoSheet_X7_isTray : GoodIn wsX7_whyNoSheet (va_wsS RX7 78 yX7_isTray wsX7_isTray) := goodIn_app (goodIn_of _ (by decide +kernel)) ggX7_whyNoSheet_X7_isTray
set_option maxRecDepth 20000 in
theorem ggX7_whyNoSheet_X7_isPoll : GoodIn wsX7_whyNoSheet wsX7_isPoll := goodIn_r _ [13, 14, 7, 8, 5, 9, 41, 42, 43, 44, 45, 46, 47, 48, 49, 50, 51, 61, 62, 63, 64, 65, 66, 67, 68] (by decide +kernel) (by decide +kernel)
set_option maxRecDepth 20000 in
theorem gX7_whyNoSheet_X7_isPoll : GoodIn wsX7_whyNoSheet (wsV RX7 147 RX7 yX7_isPoll wsX7_isPoll) := goodIn_app (goodIn_of _ (by decide +kernel)) ggX7_whyNoSheet_X7_isPoll
set_option maxRecDepth 20000 in
theorem ggX7_whyNoSheet_X7_isMinute : GoodIn wsX7_whyNoSheet wsX7_isMinute := goodIn_r _ [17, 7, 8, 5, 9] (by decide +kernel) (by decide +kernel)
set_option maxRecDepth 20000 in
theorem gX7_whyNoSheet_X7_isMinute : GoodIn wsX7_whyNoSheet (va_wsS RX7 202 yX7_isMinute wsX7_isMinute) := goodIn_app (goodIn_of _ (by decide +kernel)) ggX7_whyNoSheet_X7_isMinute
set_option maxRecDepth 20000 in
theorem ggX7_whyNoSheet_X7_whyNoVotes : GoodIn wsX7_whyNoSheet wsX7_whyNoVotes := goodIn_r _ [21, 22, 23, 24, 25, 26, 27, 28, 29, 30, 31, 32, 33, 34, 35, 36, 37, 38, 39, 40, 41, 42, 43, 44, 45, 46, 47, 48, 49, 50, 51, 69, 70, 71] (by decide +kernel) (by decide +kernel)
set_option maxRecDepth 20000 in
theorem gX7_whyNoSheet_X7_whyNoVotes : GoodIn wsX7_whyNoSheet (wsV RX7 252 RX7 yX7_whyNoVotes wsX7_whyNoVotes) := goodIn_app (goodIn_of _ (by decide +kernel)) ggX7_whyNoSheet_X7_whyNoVotes
theorem dX7_whyNoSheet_0 : decode cX7_whyNoSheet 0 = .ok (.iload_n 2, 1) := by decide +kernel
theorem dX7_whyNoSheet_1 : decode cX7_whyNoSheet 1 = .ok (.invokestatic 78, 3) := by decide +kernel
theorem dX7_whyNoSheet_4 : decode cX7_whyNoSheet 4 = .ok (.ifCond .eq 18, 3) := by decide +kernel
theorem dX7_whyNoSheet_7 : decode cX7_whyNoSheet 7 = .ok (.aload_n 0, 1) := by decide +kernel
theorem dX7_whyNoSheet_8 : decode cX7_whyNoSheet 8 = .ok (.iload_n 1, 1) := by decide +kernel
theorem dX7_whyNoSheet_9 : decode cX7_whyNoSheet 9 = .ok (.invokevirtual 147, 3) := by decide +kernel
theorem dX7_whyNoSheet_12 : decode cX7_whyNoSheet 12 = .ok (.ifCond .eq 10, 3) := by decide +kernel
theorem dX7_whyNoSheet_15 : decode cX7_whyNoSheet 15 = .ok (.iload_n 3, 1) := by decide +kernel
theorem dX7_whyNoSheet_16 : decode cX7_whyNoSheet 16 = .ok (.invokestatic 202, 3) := by decide +kernel
theorem dX7_whyNoSheet_19 : decode cX7_whyNoSheet 19 = .ok (.ifCond .ne 5, 3) := by decide +kernel
theorem dX7_whyNoSheet_22 : decode cX7_whyNoSheet 22 = .ok (.iconst 1, 1) := by decide +kernel
theorem dX7_whyNoSheet_23 : decode cX7_whyNoSheet 23 = .ok (.ireturn, 1) := by decide +kernel
theorem dX7_whyNoSheet_24 : decode cX7_whyNoSheet 24 = .ok (.iload_n 3, 1) := by decide +kernel
theorem dX7_whyNoSheet_25 : decode cX7_whyNoSheet 25 = .ok (.aload_n 0, 1) := by decide +kernel
theorem dX7_whyNoSheet_26 : decode cX7_whyNoSheet 26 = .ok (.getfield 26, 3) := by decide +kernel
theorem dX7_whyNoSheet_29 : decode cX7_whyNoSheet 29 = .ok (.getfield 293, 3) := by decide +kernel
theorem dX7_whyNoSheet_32 : decode cX7_whyNoSheet 32 = .ok (.if_icmp .ge 5, 3) := by decide +kernel
theorem dX7_whyNoSheet_35 : decode cX7_whyNoSheet 35 = .ok (.iconst 2, 1) := by decide +kernel
theorem dX7_whyNoSheet_36 : decode cX7_whyNoSheet 36 = .ok (.ireturn, 1) := by decide +kernel
theorem dX7_whyNoSheet_37 : decode cX7_whyNoSheet 37 = .ok (.aload_n 0, 1) := by decide +kernel
theorem dX7_whyNoSheet_38 : decode cX7_whyNoSheet 38 = .ok (.iload_n 2, 1) := by decide +kernel
theorem dX7_whyNoSheet_39 : decode cX7_whyNoSheet 39 = .ok (.aload_n 0, 1) := by decide +kernel
theorem dX7_whyNoSheet_40 : decode cX7_whyNoSheet 40 = .ok (.getfield 64, 3) := by decide +kernel
theorem dX7_whyNoSheet_43 : decode cX7_whyNoSheet 43 = .ok (.iconst 2, 1) := by decide +kernel
theorem dX7_whyNoSheet_44 : decode cX7_whyNoSheet 44 = .ok (.iadd, 1) := by decide +kernel
theorem dX7_whyNoSheet_45 : decode cX7_whyNoSheet 45 = .ok (.invokevirtual 252, 3) := by decide +kernel
theorem dX7_whyNoSheet_48 : decode cX7_whyNoSheet 48 = .ok (.istore 4, 2) := by decide +kernel
theorem dX7_whyNoSheet_50 : decode cX7_whyNoSheet 50 = .ok (.iload 4, 2) := by decide +kernel
theorem dX7_whyNoSheet_52 : decode cX7_whyNoSheet 52 = .ok (.ifCond .ne 18, 3) := by decide +kernel
theorem dX7_whyNoSheet_55 : decode cX7_whyNoSheet 55 = .ok (.aload_n 0, 1) := by decide +kernel
theorem dX7_whyNoSheet_56 : decode cX7_whyNoSheet 56 = .ok (.getfield 26, 3) := by decide +kernel
theorem dX7_whyNoSheet_59 : decode cX7_whyNoSheet 59 = .ok (.getfield 123, 3) := by decide +kernel
theorem dX7_whyNoSheet_62 : decode cX7_whyNoSheet 62 = .ok (.bipush 120, 2) := by decide +kernel
theorem dX7_whyNoSheet_64 : decode cX7_whyNoSheet 64 = .ok (.if_icmp .lt 6, 3) := by decide +kernel
theorem dX7_whyNoSheet_67 : decode cX7_whyNoSheet 67 = .ok (.bipush 7, 2) := by decide +kernel
theorem dX7_whyNoSheet_69 : decode cX7_whyNoSheet 69 = .ok (.ireturn, 1) := by decide +kernel
theorem dX7_whyNoSheet_70 : decode cX7_whyNoSheet 70 = .ok (.iload 4, 2) := by decide +kernel
theorem dX7_whyNoSheet_72 : decode cX7_whyNoSheet 72 = .ok (.ireturn, 1) := by decide +kernel
set_option maxRecDepth 20000 in
theorem ggX7_whyNoTally_X7_isParty : GoodIn wsX7_whyNoTally wsX7_isParty := goodIn_r _ [7, 8, 9, 10, 6, 11, 57, 58, 59, 60, 61, 62, 63, 64, 65, 66, 67] (by decide +kernel) (by decide +kernel)
set_option maxRecDepth 20000 in
theorem gX7_whyNoTally_X7_isParty : GoodIn wsX7_whyNoTally (wsV RX7 235 RX7 yX7_isParty wsX7_isParty) := goodIn_app (goodIn_of _ (by decide +kernel)) ggX7_whyNoTally_X7_isParty
set_option maxRecDepth 20000 in
theorem ggX7_whyNoTally_X7_isMinute : GoodIn wsX7_whyNoTally wsX7_isMinute := goodIn_r _ [14, 9, 10, 6, 11] (by decide +kernel) (by decide +kernel)
set_option maxRecDepth 20000 in
theorem gX7_whyNoTally_X7_isMinute : GoodIn wsX7_whyNoTally (va_wsS RX7 202 yX7_isMinute wsX7_isMinute) := goodIn_app (goodIn_of _ (by decide +kernel)) ggX7_whyNoTally_X7_isMinute
set_option maxRecDepth 20000 in
theorem ggX7_whyNoTally_X7_tally : GoodIn wsX7_whyNoTally wsX7_tally := goodIn_r _ [18, 19, 1, 2, 20, 21, 22, 23, 24, 25, 26, 27, 28, 29, 30, 31, 32, 33, 34, 35, 36, 37, 38, 39, 40, 41, 42, 43, 44, 45, 46, 47, 48, 57, 58, 59, 60, 61, 62, 63, 64, 65, 66, 67, 68, 69, 70, 71, 72, 73, 74, 75, 76, 77, 78, 79, 80, 81, 82, 83, 84, 85, 86, 87, 88] (by decide +kernel) (by decide +kernel)
set_option maxRecDepth 20000 in
theorem gX7_whyNoTally_X7_tally : GoodIn wsX7_whyNoTally (wsV RX7 208 RX7 yX7_tally wsX7_tally) := goodIn_app (goodIn_of _ (by decide +kernel)) ggX7_whyNoTally_X7_tally
set_option maxRecDepth 20000 in
theorem ggX7_whyNoTally_X2_hasEnough : GoodIn wsX7_whyNoTally wsX2_hasEnough := goodIn_r _ [51, 37, 52, 53, 54, 55, 56, 81, 82, 83, 84, 85, 86, 87, 88, 77, 78, 79, 80] (by decide +kernel) (by decide +kernel)
set_option maxRecDepth 20000 in
theorem gX7_whyNoTally_X2_hasEnough_n296 : GoodIn wsX7_whyNoTally (wsX2_hasEnough) := ggX7_whyNoTally_X2_hasEnough
theorem dX7_whyNoTally_0 : decode cX7_whyNoTally 0 = .ok (.iload_n 2, 1) := by decide +kernel
theorem dX7_whyNoTally_1 : decode cX7_whyNoTally 1 = .ok (.iconst (-1), 1) := by decide +kernel
theorem dX7_whyNoTally_2 : decode cX7_whyNoTally 2 = .ok (.if_icmp .eq 16, 3) := by decide +kernel
theorem dX7_whyNoTally_5 : decode cX7_whyNoTally 5 = .ok (.aload_n 0, 1) := by decide +kernel
theorem dX7_whyNoTally_6 : decode cX7_whyNoTally 6 = .ok (.iload_n 2, 1) := by decide +kernel
theorem dX7_whyNoTally_7 : decode cX7_whyNoTally 7 = .ok (.invokevirtual 235, 3) := by decide +kernel
theorem dX7_whyNoTally_10 : decode cX7_whyNoTally 10 = .ok (.ifCond .eq 12, 3) := by decide +kernel
theorem dX7_whyNoTally_13 : decode cX7_whyNoTally 13 = .ok (.iload_n 2, 1) := by decide +kernel
theorem dX7_whyNoTally_14 : decode cX7_whyNoTally 14 = .ok (.iload_n 1, 1) := by decide +kernel
theorem dX7_whyNoTally_15 : decode cX7_whyNoTally 15 = .ok (.if_icmp .eq 7, 3) := by decide +kernel
theorem dX7_whyNoTally_18 : decode cX7_whyNoTally 18 = .ok (.iconst 1, 1) := by decide +kernel
theorem dX7_whyNoTally_19 : decode cX7_whyNoTally 19 = .ok (.goto 4, 3) := by decide +kernel
theorem dX7_whyNoTally_22 : decode cX7_whyNoTally 22 = .ok (.iconst 0, 1) := by decide +kernel
theorem dX7_whyNoTally_23 : decode cX7_whyNoTally 23 = .ok (.istore 5, 2) := by decide +kernel
theorem dX7_whyNoTally_25 : decode cX7_whyNoTally 25 = .ok (.aload_n 0, 1) := by decide +kernel
theorem dX7_whyNoTally_26 : decode cX7_whyNoTally 26 = .ok (.iload_n 1, 1) := by decide +kernel
theorem dX7_whyNoTally_27 : decode cX7_whyNoTally 27 = .ok (.invokevirtual 235, 3) := by decide +kernel
theorem dX7_whyNoTally_30 : decode cX7_whyNoTally 30 = .ok (.ifCond .eq 15, 3) := by decide +kernel
theorem dX7_whyNoTally_33 : decode cX7_whyNoTally 33 = .ok (.iload 5, 2) := by decide +kernel
theorem dX7_whyNoTally_35 : decode cX7_whyNoTally 35 = .ok (.ifCond .eq 10, 3) := by decide +kernel
theorem dX7_whyNoTally_38 : decode cX7_whyNoTally 38 = .ok (.iload_n 3, 1) := by decide +kernel
theorem dX7_whyNoTally_39 : decode cX7_whyNoTally 39 = .ok (.invokestatic 202, 3) := by decide +kernel
theorem dX7_whyNoTally_42 : decode cX7_whyNoTally 42 = .ok (.ifCond .ne 5, 3) := by decide +kernel
theorem dX7_whyNoTally_45 : decode cX7_whyNoTally 45 = .ok (.iconst 1, 1) := by decide +kernel
theorem dX7_whyNoTally_46 : decode cX7_whyNoTally 46 = .ok (.ireturn, 1) := by decide +kernel
theorem dX7_whyNoTally_47 : decode cX7_whyNoTally 47 = .ok (.aload_n 0, 1) := by decide +kernel
theorem dX7_whyNoTally_48 : decode cX7_whyNoTally 48 = .ok (.iload_n 1, 1) := by decide +kernel
theorem dX7_whyNoTally_49 : decode cX7_whyNoTally 49 = .ok (.iload_n 2, 1) := by decide +kernel
theorem dX7_whyNoTally_50 : decode cX7_whyNoTally 50 = .ok (.iload_n 3, 1) := by decide +kernel
theorem dX7_whyNoTally_51 : decode cX7_whyNoTally 51 = .ok (.invokevirtual 208, 3) := by decide +kernel
theorem dX7_whyNoTally_54 : decode cX7_whyNoTally 54 = .ok (.aload_n 0, 1) := by decide +kernel
theorem dX7_whyNoTally_55 : decode cX7_whyNoTally 55 = .ok (.getfield 40, 3) := by decide +kernel
theorem dX7_whyNoTally_58 : decode cX7_whyNoTally 58 = .ok (.aload_n 0, 1) := by decide +kernel
theorem dX7_whyNoTally_59 : decode cX7_whyNoTally 59 = .ok (.getfield 19, 3) := by decide +kernel
theorem dX7_whyNoTally_62 : decode cX7_whyNoTally 62 = .ok (.iload 4, 2) := by decide +kernel
theorem dX7_whyNoTally_64 : decode cX7_whyNoTally 64 = .ok (.invokevirtual 296, 3) := by decide +kernel
theorem dX7_whyNoTally_67 : decode cX7_whyNoTally 67 = .ok (.ifCond .eq 7, 3) := by decide +kernel
theorem dX7_whyNoTally_70 : decode cX7_whyNoTally 70 = .ok (.iconst 0, 1) := by decide +kernel
theorem dX7_whyNoTally_71 : decode cX7_whyNoTally 71 = .ok (.goto 4, 3) := by decide +kernel
theorem dX7_whyNoTally_74 : decode cX7_whyNoTally 74 = .ok (.iconst 5, 1) := by decide +kernel
theorem dX7_whyNoTally_75 : decode cX7_whyNoTally 75 = .ok (.ireturn, 1) := by decide +kernel
set_option maxRecDepth 20000 in
theorem ggX7_tally_X5_findKnown : GoodIn wsX7_tally wsX5_findKnown := goodIn_r _ [7, 8, 9, 10, 11, 12, 13, 5, 14, 15, 16, 44, 45, 46, 47, 48, 49, 50, 51, 52] (by decide +kernel) (by decide +kernel)
set_option maxRecDepth 20000 in
theorem gX7_tally_X5_findKnown_n267 : GoodIn wsX7_tally (wsX5_findKnown) := ggX7_tally_X5_findKnown
set_option maxRecDepth 20000 in
theorem ggX7_tally_X2_tally : GoodIn wsX7_tally wsX2_tally := goodIn_r _ [20, 21, 22, 23, 24, 25, 26, 27, 18, 28, 29, 5, 30, 31, 32, 53, 54, 55, 56, 57, 58, 59, 60, 61, 62, 63, 64, 44, 45, 46, 47, 48, 49, 50, 51, 52] (by decide +kernel) (by decide +kernel)
set_option maxRecDepth 20000 in
theorem gX7_tally_X2_tally_n300 : GoodIn wsX7_tally (wsX2_tally) := ggX7_tally_X2_tally
theorem dX7_tally_0 : decode cX7_tally 0 = .ok (.aload_n 0, 1) := by decide +kernel
theorem dX7_tally_1 : decode cX7_tally 1 = .ok (.getfield 26, 3) := by decide +kernel
theorem dX7_tally_4 : decode cX7_tally 4 = .ok (.iload_n 3, 1) := by decide +kernel
theorem dX7_tally_5 : decode cX7_tally 5 = .ok (.invokevirtual 267, 3) := by decide +kernel
theorem dX7_tally_8 : decode cX7_tally 8 = .ok (.aload_n 0, 1) := by decide +kernel
theorem dX7_tally_9 : decode cX7_tally 9 = .ok (.getfield 40, 3) := by decide +kernel
theorem dX7_tally_12 : decode cX7_tally 12 = .ok (.aload_n 0, 1) := by decide +kernel
theorem dX7_tally_13 : decode cX7_tally 13 = .ok (.getfield 19, 3) := by decide +kernel
theorem dX7_tally_16 : decode cX7_tally 16 = .ok (.aload_n 0, 1) := by decide +kernel
theorem dX7_tally_17 : decode cX7_tally 17 = .ok (.getfield 26, 3) := by decide +kernel
theorem dX7_tally_20 : decode cX7_tally 20 = .ok (.iload_n 1, 1) := by decide +kernel
theorem dX7_tally_21 : decode cX7_tally 21 = .ok (.iload_n 2, 1) := by decide +kernel
theorem dX7_tally_22 : decode cX7_tally 22 = .ok (.invokevirtual 300, 3) := by decide +kernel
theorem dX7_tally_25 : decode cX7_tally 25 = .ok (.return_, 1) := by decide +kernel
set_option maxRecDepth 20000 in
theorem ggX7_isTallyAhead_X2_tellSum : GoodIn wsX7_isTallyAhead wsX2_tellSum := goodIn_r _ [9, 10, 11, 12, 13, 14, 15, 16, 17, 18, 19, 20, 21, 22, 23, 24, 25, 26, 27, 28, 29, 30, 31, 32, 53, 54, 55, 56, 57, 58, 59, 60, 61, 62, 63, 64, 51, 52] (by decide +kernel) (by decide +kernel)
set_option maxRecDepth 20000 in
theorem gX7_isTallyAhead_X2_tellSum_n218 : GoodIn wsX7_isTallyAhead (wsX2_tellSum) := ggX7_isTallyAhead_X2_tellSum
set_option maxRecDepth 20000 in
theorem ggX7_isTallyAhead_X0_sign : GoodIn wsX7_isTallyAhead wsX0_sign := goodIn_r _ [35, 16, 51, 52] (by decide +kernel) (by decide +kernel)
set_option maxRecDepth 20000 in
theorem gX7_isTallyAhead_X0_sign_n175 : GoodIn wsX7_isTallyAhead (wsX0_sign) := ggX7_isTallyAhead_X0_sign
set_option maxRecDepth 20000 in
theorem ggX7_isTallyAhead_X2_tellDoubt : GoodIn wsX7_isTallyAhead wsX2_tellDoubt := goodIn_r _ [38, 10, 39, 11, 12, 13, 14, 15, 16, 17, 18, 19, 20, 21, 22, 23, 24, 25, 26, 27, 28, 29, 30, 31, 32, 61, 62, 63, 64, 53, 54, 55, 56, 57, 58, 59, 60, 51, 52] (by decide +kernel) (by decide +kernel)
set_option maxRecDepth 20000 in
theorem gX7_isTallyAhead_X2_tellDoubt_n222 : GoodIn wsX7_isTallyAhead (wsX2_tellDoubt) := ggX7_isTallyAhead_X2_tellDoubt
set_option maxRecDepth 20000 in
theorem ggX7_isTallyAhead_X0_put : GoodIn wsX7_isTallyAhead wsX0_put := goodIn_r _ [27, 28, 29, 30, 31, 16, 17, 21, 22, 13, 23, 32, 12, 14, 15, 51, 52] (by decide +kernel) (by decide +kernel)
set_option maxRecDepth 20000 in
theorem gX7_isTallyAhead_X0_put_n172 : GoodIn wsX7_isTallyAhead (wsX0_put) := ggX7_isTallyAhead_X0_put
set_option maxRecDepth 20000 in
theorem ggX7_isTallyAhead_X0_add : GoodIn wsX7_isTallyAhead wsX0_add := goodIn_r _ [20, 17, 16, 21, 22, 13, 23, 24, 25, 26, 27, 28, 29, 30, 31, 32, 12, 14, 15, 51, 52] (by decide +kernel) (by decide +kernel)
set_option maxRecDepth 20000 in
theorem gX7_isTallyAhead_X0_add_n305 : GoodIn wsX7_isTallyAhead (wsX0_add) := ggX7_isTallyAhead_X0_add
theorem dX7_isTallyAhead_0 : decode cX7_isTallyAhead 0 = .ok (.aload_n 0, 1) := by decide +kernel
theorem dX7_isTallyAhead_1 : decode cX7_isTallyAhead 1 = .ok (.getfield 40, 3) := by decide +kernel
theorem dX7_isTallyAhead_4 : decode cX7_isTallyAhead 4 = .ok (.aload_n 0, 1) := by decide +kernel
theorem dX7_isTallyAhead_5 : decode cX7_isTallyAhead 5 = .ok (.getfield 19, 3) := by decide +kernel
theorem dX7_isTallyAhead_8 : decode cX7_isTallyAhead 8 = .ok (.aload_n 0, 1) := by decide +kernel
theorem dX7_isTallyAhead_9 : decode cX7_isTallyAhead 9 = .ok (.getfield 58, 3) := by decide +kernel
theorem dX7_isTallyAhead_12 : decode cX7_isTallyAhead 12 = .ok (.invokevirtual 218, 3) := by decide +kernel
theorem dX7_isTallyAhead_15 : decode cX7_isTallyAhead 15 = .ok (.aload_n 0, 1) := by decide +kernel
theorem dX7_isTallyAhead_16 : decode cX7_isTallyAhead 16 = .ok (.getfield 58, 3) := by decide +kernel
theorem dX7_isTallyAhead_19 : decode cX7_isTallyAhead 19 = .ok (.invokevirtual 175, 3) := by decide +kernel
theorem dX7_isTallyAhead_22 : decode cX7_isTallyAhead 22 = .ok (.ifCond .gt 5, 3) := by decide +kernel
theorem dX7_isTallyAhead_25 : decode cX7_isTallyAhead 25 = .ok (.iconst 0, 1) := by decide +kernel
theorem dX7_isTallyAhead_26 : decode cX7_isTallyAhead 26 = .ok (.ireturn, 1) := by decide +kernel
theorem dX7_isTallyAhead_27 : decode cX7_isTallyAhead 27 = .ok (.aload_n 0, 1) := by decide +kernel
theorem dX7_isTallyAhead_28 : decode cX7_isTallyAhead 28 = .ok (.getfield 40, 3) := by decide +kernel
theorem dX7_isTallyAhead_31 : decode cX7_isTallyAhead 31 = .ok (.aload_n 0, 1) := by decide +kernel
theorem dX7_isTallyAhead_32 : decode cX7_isTallyAhead 32 = .ok (.getfield 19, 3) := by decide +kernel
theorem dX7_isTallyAhead_35 : decode cX7_isTallyAhead 35 = .ok (.aload_n 0, 1) := by decide +kernel
theorem dX7_isTallyAhead_36 : decode cX7_isTallyAhead 36 = .ok (.getfield 61, 3) := by decide +kernel
theorem dX7_isTallyAhead_39 : decode cX7_isTallyAhead 39 = .ok (.invokevirtual 222, 3) := by decide +kernel
theorem dX7_isTallyAhead_42 : decode cX7_isTallyAhead 42 = .ok (.aload_n 0, 1) := by decide +kernel
theorem dX7_isTallyAhead_43 : decode cX7_isTallyAhead 43 = .ok (.getfield 58, 3) := by decide +kernel
theorem dX7_isTallyAhead_46 : decode cX7_isTallyAhead 46 = .ok (.aload_n 0, 1) := by decide +kernel
theorem dX7_isTallyAhead_47 : decode cX7_isTallyAhead 47 = .ok (.getfield 58, 3) := by decide +kernel
theorem dX7_isTallyAhead_50 : decode cX7_isTallyAhead 50 = .ok (.getfield 71, 3) := by decide +kernel
theorem dX7_isTallyAhead_53 : decode cX7_isTallyAhead 53 = .ok (.aload_n 0, 1) := by decide +kernel
theorem dX7_isTallyAhead_54 : decode cX7_isTallyAhead 54 = .ok (.getfield 58, 3) := by decide +kernel
theorem dX7_isTallyAhead_57 : decode cX7_isTallyAhead 57 = .ok (.getfield 71, 3) := by decide +kernel
theorem dX7_isTallyAhead_60 : decode cX7_isTallyAhead 60 = .ok (.lmul, 1) := by decide +kernel
theorem dX7_isTallyAhead_61 : decode cX7_isTallyAhead 61 = .ok (.aload_n 0, 1) := by decide +kernel
theorem dX7_isTallyAhead_62 : decode cX7_isTallyAhead 62 = .ok (.getfield 58, 3) := by decide +kernel
theorem dX7_isTallyAhead_65 : decode cX7_isTallyAhead 65 = .ok (.getfield 75, 3) := by decide +kernel
theorem dX7_isTallyAhead_68 : decode cX7_isTallyAhead 68 = .ok (.aload_n 0, 1) := by decide +kernel
theorem dX7_isTallyAhead_69 : decode cX7_isTallyAhead 69 = .ok (.getfield 58, 3) := by decide +kernel
theorem dX7_isTallyAhead_72 : decode cX7_isTallyAhead 72 = .ok (.getfield 75, 3) := by decide +kernel
theorem dX7_isTallyAhead_75 : decode cX7_isTallyAhead 75 = .ok (.lmul, 1) := by decide +kernel
theorem dX7_isTallyAhead_76 : decode cX7_isTallyAhead 76 = .ok (.invokevirtual 172, 3) := by decide +kernel
theorem dX7_isTallyAhead_79 : decode cX7_isTallyAhead 79 = .ok (.aload_n 0, 1) := by decide +kernel
theorem dX7_isTallyAhead_80 : decode cX7_isTallyAhead 80 = .ok (.getfield 58, 3) := by decide +kernel
theorem dX7_isTallyAhead_83 : decode cX7_isTallyAhead 83 = .ok (.ldc2_w 303, 3) := by decide +kernel
theorem dX7_isTallyAhead_86 : decode cX7_isTallyAhead 86 = .ok (.aload_n 0, 1) := by decide +kernel
theorem dX7_isTallyAhead_87 : decode cX7_isTallyAhead 87 = .ok (.getfield 61, 3) := by decide +kernel
theorem dX7_isTallyAhead_90 : decode cX7_isTallyAhead 90 = .ok (.getfield 71, 3) := by decide +kernel
theorem dX7_isTallyAhead_93 : decode cX7_isTallyAhead 93 = .ok (.lmul, 1) := by decide +kernel
theorem dX7_isTallyAhead_94 : decode cX7_isTallyAhead 94 = .ok (.aload_n 0, 1) := by decide +kernel
theorem dX7_isTallyAhead_95 : decode cX7_isTallyAhead 95 = .ok (.getfield 61, 3) := by decide +kernel
theorem dX7_isTallyAhead_98 : decode cX7_isTallyAhead 98 = .ok (.getfield 75, 3) := by decide +kernel
theorem dX7_isTallyAhead_101 : decode cX7_isTallyAhead 101 = .ok (.invokevirtual 305, 3) := by decide +kernel
theorem dX7_isTallyAhead_104 : decode cX7_isTallyAhead 104 = .ok (.aload_n 0, 1) := by decide +kernel
theorem dX7_isTallyAhead_105 : decode cX7_isTallyAhead 105 = .ok (.getfield 58, 3) := by decide +kernel
theorem dX7_isTallyAhead_108 : decode cX7_isTallyAhead 108 = .ok (.invokevirtual 175, 3) := by decide +kernel
theorem dX7_isTallyAhead_111 : decode cX7_isTallyAhead 111 = .ok (.ifCond .le 7, 3) := by decide +kernel
theorem dX7_isTallyAhead_114 : decode cX7_isTallyAhead 114 = .ok (.iconst 1, 1) := by decide +kernel
theorem dX7_isTallyAhead_115 : decode cX7_isTallyAhead 115 = .ok (.goto 4, 3) := by decide +kernel
theorem dX7_isTallyAhead_118 : decode cX7_isTallyAhead 118 = .ok (.iconst 0, 1) := by decide +kernel
theorem dX7_isTallyAhead_119 : decode cX7_isTallyAhead 119 = .ok (.ireturn, 1) := by decide +kernel
set_option maxRecDepth 20000 in
theorem ggX7_isLowAboveHigh_X7_tally : GoodIn wsX7_isLowAboveHigh wsX7_tally := goodIn_r _ [9, 10, 1, 2, 11, 12, 13, 14, 15, 16, 17, 18, 19, 20, 21, 22, 23, 24, 25, 26, 27, 28, 29, 30, 31, 32, 33, 34, 35, 36, 37, 38, 39, 67, 68, 69, 70, 71, 72, 73, 74, 75, 76, 77, 80, 81, 82, 83, 84, 85, 86, 87, 88, 89, 90, 91, 92, 93, 94, 95, 96, 97, 98, 99, 100] (by decide +kernel) (by decide +kernel)
set_option maxRecDepth 20000 in
theorem gX7_isLowAboveHigh_X7_tally : GoodIn wsX7_isLowAboveHigh (wsV RX7 208 RX7 yX7_tally wsX7_tally) := goodIn_app (goodIn_of _ (by decide +kernel)) ggX7_isLowAboveHigh_X7_tally
set_option maxRecDepth 20000 in
theorem ggX7_isLowAboveHigh_X2_tellWorst : GoodIn wsX7_isLowAboveHigh wsX2_tellWorst := goodIn_r _ [42, 29, 31, 43, 44, 45, 46, 47, 48, 49, 50, 51, 52, 53, 54, 55, 56, 57, 58, 59, 60, 61, 62, 63, 93, 94, 95, 96, 97, 98, 99, 100, 89, 90, 91, 92, 78, 79] (by decide +kernel) (by decide +kernel)
set_option maxRecDepth 20000 in
theorem gX7_isLowAboveHigh_X2_tellWorst_n242 : GoodIn wsX7_isLowAboveHigh (wsX2_tellWorst) := ggX7_isLowAboveHigh_X2_tellWorst
set_option maxRecDepth 20000 in
theorem ggX7_isLowAboveHigh_X0_add : GoodIn wsX7_isLowAboveHigh wsX0_add := goodIn_r _ [51, 48, 47, 52, 53, 44, 54, 55, 56, 57, 58, 59, 60, 61, 62, 63, 43, 45, 46, 78, 79] (by decide +kernel) (by decide +kernel)
set_option maxRecDepth 20000 in
theorem gX7_isLowAboveHigh_X0_add_n305 : GoodIn wsX7_isLowAboveHigh (wsX0_add) := ggX7_isLowAboveHigh_X0_add
set_option maxRecDepth 20000 in
theorem ggX7_isLowAboveHigh_X0_sign : GoodIn wsX7_isLowAboveHigh wsX0_sign := goodIn_r _ [66, 47, 78, 79] (by decide +kernel) (by decide +kernel)
set_option maxRecDepth 20000 in
theorem gX7_isLowAboveHigh_X0_sign_n175 : GoodIn wsX7_isLowAboveHigh (wsX0_sign) := ggX7_isLowAboveHigh_X0_sign
theorem dX7_isLowAboveHigh_0 : decode cX7_isLowAboveHigh 0 = .ok (.aload_n 0, 1) := by decide +kernel
theorem dX7_isLowAboveHigh_1 : decode cX7_isLowAboveHigh 1 = .ok (.iload_n 1, 1) := by decide +kernel
theorem dX7_isLowAboveHigh_2 : decode cX7_isLowAboveHigh 2 = .ok (.iconst (-1), 1) := by decide +kernel
theorem dX7_isLowAboveHigh_3 : decode cX7_isLowAboveHigh 3 = .ok (.iload_n 3, 1) := by decide +kernel
theorem dX7_isLowAboveHigh_4 : decode cX7_isLowAboveHigh 4 = .ok (.invokevirtual 208, 3) := by decide +kernel
theorem dX7_isLowAboveHigh_7 : decode cX7_isLowAboveHigh 7 = .ok (.aload_n 0, 1) := by decide +kernel
theorem dX7_isLowAboveHigh_8 : decode cX7_isLowAboveHigh 8 = .ok (.getfield 40, 3) := by decide +kernel
theorem dX7_isLowAboveHigh_11 : decode cX7_isLowAboveHigh 11 = .ok (.aload_n 0, 1) := by decide +kernel
theorem dX7_isLowAboveHigh_12 : decode cX7_isLowAboveHigh 12 = .ok (.getfield 19, 3) := by decide +kernel
theorem dX7_isLowAboveHigh_15 : decode cX7_isLowAboveHigh 15 = .ok (.iconst 0, 1) := by decide +kernel
theorem dX7_isLowAboveHigh_16 : decode cX7_isLowAboveHigh 16 = .ok (.aload_n 0, 1) := by decide +kernel
theorem dX7_isLowAboveHigh_17 : decode cX7_isLowAboveHigh 17 = .ok (.getfield 58, 3) := by decide +kernel
theorem dX7_isLowAboveHigh_20 : decode cX7_isLowAboveHigh 20 = .ok (.invokevirtual 242, 3) := by decide +kernel
theorem dX7_isLowAboveHigh_23 : decode cX7_isLowAboveHigh 23 = .ok (.aload_n 0, 1) := by decide +kernel
theorem dX7_isLowAboveHigh_24 : decode cX7_isLowAboveHigh 24 = .ok (.iload_n 2, 1) := by decide +kernel
theorem dX7_isLowAboveHigh_25 : decode cX7_isLowAboveHigh 25 = .ok (.iconst (-1), 1) := by decide +kernel
theorem dX7_isLowAboveHigh_26 : decode cX7_isLowAboveHigh 26 = .ok (.iload_n 3, 1) := by decide +kernel
theorem dX7_isLowAboveHigh_27 : decode cX7_isLowAboveHigh 27 = .ok (.invokevirtual 208, 3) := by decide +kernel
theorem dX7_isLowAboveHigh_30 : decode cX7_isLowAboveHigh 30 = .ok (.aload_n 0, 1) := by decide +kernel
theorem dX7_isLowAboveHigh_31 : decode cX7_isLowAboveHigh 31 = .ok (.getfield 40, 3) := by decide +kernel
theorem dX7_isLowAboveHigh_34 : decode cX7_isLowAboveHigh 34 = .ok (.aload_n 0, 1) := by decide +kernel
theorem dX7_isLowAboveHigh_35 : decode cX7_isLowAboveHigh 35 = .ok (.getfield 19, 3) := by decide +kernel
theorem dX7_isLowAboveHigh_38 : decode cX7_isLowAboveHigh 38 = .ok (.iconst 1, 1) := by decide +kernel
theorem dX7_isLowAboveHigh_39 : decode cX7_isLowAboveHigh 39 = .ok (.aload_n 0, 1) := by decide +kernel
theorem dX7_isLowAboveHigh_40 : decode cX7_isLowAboveHigh 40 = .ok (.getfield 61, 3) := by decide +kernel
theorem dX7_isLowAboveHigh_43 : decode cX7_isLowAboveHigh 43 = .ok (.invokevirtual 242, 3) := by decide +kernel
theorem dX7_isLowAboveHigh_46 : decode cX7_isLowAboveHigh 46 = .ok (.aload_n 0, 1) := by decide +kernel
theorem dX7_isLowAboveHigh_47 : decode cX7_isLowAboveHigh 47 = .ok (.getfield 58, 3) := by decide +kernel
theorem dX7_isLowAboveHigh_50 : decode cX7_isLowAboveHigh 50 = .ok (.aload_n 0, 1) := by decide +kernel
theorem dX7_isLowAboveHigh_51 : decode cX7_isLowAboveHigh 51 = .ok (.getfield 61, 3) := by decide +kernel
theorem dX7_isLowAboveHigh_54 : decode cX7_isLowAboveHigh 54 = .ok (.getfield 71, 3) := by decide +kernel
theorem dX7_isLowAboveHigh_57 : decode cX7_isLowAboveHigh 57 = .ok (.lneg, 1) := by decide +kernel
theorem dX7_isLowAboveHigh_58 : decode cX7_isLowAboveHigh 58 = .ok (.aload_n 0, 1) := by decide +kernel
theorem dX7_isLowAboveHigh_59 : decode cX7_isLowAboveHigh 59 = .ok (.getfield 61, 3) := by decide +kernel
theorem dX7_isLowAboveHigh_62 : decode cX7_isLowAboveHigh 62 = .ok (.getfield 75, 3) := by decide +kernel
theorem dX7_isLowAboveHigh_65 : decode cX7_isLowAboveHigh 65 = .ok (.invokevirtual 305, 3) := by decide +kernel
theorem dX7_isLowAboveHigh_68 : decode cX7_isLowAboveHigh 68 = .ok (.aload_n 0, 1) := by decide +kernel
theorem dX7_isLowAboveHigh_69 : decode cX7_isLowAboveHigh 69 = .ok (.getfield 58, 3) := by decide +kernel
theorem dX7_isLowAboveHigh_72 : decode cX7_isLowAboveHigh 72 = .ok (.invokevirtual 175, 3) := by decide +kernel
theorem dX7_isLowAboveHigh_75 : decode cX7_isLowAboveHigh 75 = .ok (.ifCond .le 7, 3) := by decide +kernel
theorem dX7_isLowAboveHigh_78 : decode cX7_isLowAboveHigh 78 = .ok (.iconst 1, 1) := by decide +kernel
theorem dX7_isLowAboveHigh_79 : decode cX7_isLowAboveHigh 79 = .ok (.goto 4, 3) := by decide +kernel
theorem dX7_isLowAboveHigh_82 : decode cX7_isLowAboveHigh 82 = .ok (.iconst 0, 1) := by decide +kernel
theorem dX7_isLowAboveHigh_83 : decode cX7_isLowAboveHigh 83 = .ok (.ireturn, 1) := by decide +kernel
set_option maxRecDepth 20000 in
theorem ggX7_slipOf_X7_isSlip : GoodIn wsX7_slipOf wsX7_isSlip := goodIn_r _ [6, 7, 8, 9, 1, 10, 11, 12, 13, 14, 15, 16, 5, 17, 18, 19, 20, 21, 22, 23, 24, 25, 26, 27, 28, 29, 30, 31, 32, 33, 34, 35, 36, 37, 38, 39, 40, 41, 42, 43, 44, 45, 46, 47, 48, 49, 50, 51, 52, 53, 54, 55, 56] (by decide +kernel) (by decide +kernel)
set_option maxRecDepth 20000 in
theorem gX7_slipOf_X7_isSlip : GoodIn wsX7_slipOf (wsV RX7 307 RX7 yX7_isSlip wsX7_isSlip) := goodIn_app (goodIn_of _ (by decide +kernel)) ggX7_slipOf_X7_isSlip
theorem dX7_slipOf_0 : decode cX7_slipOf 0 = .ok (.iload_n 2, 1) := by decide +kernel
theorem dX7_slipOf_1 : decode cX7_slipOf 1 = .ok (.istore_n 3, 1) := by decide +kernel
theorem dX7_slipOf_2 : decode cX7_slipOf 2 = .ok (.iconst 0, 1) := by decide +kernel
theorem dX7_slipOf_3 : decode cX7_slipOf 3 = .ok (.istore 4, 2) := by decide +kernel
theorem dX7_slipOf_5 : decode cX7_slipOf 5 = .ok (.iload 4, 2) := by decide +kernel
theorem dX7_slipOf_7 : decode cX7_slipOf 7 = .ok (.aload_n 0, 1) := by decide +kernel
theorem dX7_slipOf_8 : decode cX7_slipOf 8 = .ok (.getfield 64, 3) := by decide +kernel
theorem dX7_slipOf_11 : decode cX7_slipOf 11 = .ok (.iconst 2, 1) := by decide +kernel
theorem dX7_slipOf_12 : decode cX7_slipOf 12 = .ok (.iadd, 1) := by decide +kernel
theorem dX7_slipOf_13 : decode cX7_slipOf 13 = .ok (.if_icmp .ge 61, 3) := by decide +kernel
theorem dX7_slipOf_16 : decode cX7_slipOf 16 = .ok (.iconst 0, 1) := by decide +kernel
theorem dX7_slipOf_17 : decode cX7_slipOf 17 = .ok (.istore 5, 2) := by decide +kernel
theorem dX7_slipOf_19 : decode cX7_slipOf 19 = .ok (.iload 5, 2) := by decide +kernel
theorem dX7_slipOf_21 : decode cX7_slipOf 21 = .ok (.bipush 40, 2) := by decide +kernel
theorem dX7_slipOf_23 : decode cX7_slipOf 23 = .ok (.if_icmp .ge 45, 3) := by decide +kernel
theorem dX7_slipOf_26 : decode cX7_slipOf 26 = .ok (.aload_n 0, 1) := by decide +kernel
theorem dX7_slipOf_27 : decode cX7_slipOf 27 = .ok (.iload_n 1, 1) := by decide +kernel
theorem dX7_slipOf_28 : decode cX7_slipOf 28 = .ok (.iload 4, 2) := by decide +kernel
theorem dX7_slipOf_30 : decode cX7_slipOf 30 = .ok (.iload 5, 2) := by decide +kernel
theorem dX7_slipOf_32 : decode cX7_slipOf 32 = .ok (.bipush 10, 2) := by decide +kernel
theorem dX7_slipOf_34 : decode cX7_slipOf 34 = .ok (.idiv, 1) := by decide +kernel
theorem dX7_slipOf_35 : decode cX7_slipOf 35 = .ok (.iload 5, 2) := by decide +kernel
theorem dX7_slipOf_37 : decode cX7_slipOf 37 = .ok (.bipush 10, 2) := by decide +kernel
theorem dX7_slipOf_39 : decode cX7_slipOf 39 = .ok (.irem, 1) := by decide +kernel
theorem dX7_slipOf_40 : decode cX7_slipOf 40 = .ok (.invokevirtual 307, 3) := by decide +kernel
theorem dX7_slipOf_43 : decode cX7_slipOf 43 = .ok (.ifCond .eq 19, 3) := by decide +kernel
theorem dX7_slipOf_46 : decode cX7_slipOf 46 = .ok (.iload_n 3, 1) := by decide +kernel
theorem dX7_slipOf_47 : decode cX7_slipOf 47 = .ok (.ifCond .ne 12, 3) := by decide +kernel
theorem dX7_slipOf_50 : decode cX7_slipOf 50 = .ok (.bipush 100, 2) := by decide +kernel
theorem dX7_slipOf_52 : decode cX7_slipOf 52 = .ok (.iload 4, 2) := by decide +kernel
theorem dX7_slipOf_54 : decode cX7_slipOf 54 = .ok (.imul, 1) := by decide +kernel
theorem dX7_slipOf_55 : decode cX7_slipOf 55 = .ok (.iload 5, 2) := by decide +kernel
theorem dX7_slipOf_57 : decode cX7_slipOf 57 = .ok (.iadd, 1) := by decide +kernel
theorem dX7_slipOf_58 : decode cX7_slipOf 58 = .ok (.ireturn, 1) := by decide +kernel
theorem dX7_slipOf_59 : decode cX7_slipOf 59 = .ok (.iinc 3 (-1), 3) := by decide +kernel
theorem dX7_slipOf_62 : decode cX7_slipOf 62 = .ok (.iinc 5 1, 3) := by decide +kernel
theorem dX7_slipOf_65 : decode cX7_slipOf 65 = .ok (.goto (-46), 3) := by decide +kernel
theorem dX7_slipOf_68 : decode cX7_slipOf 68 = .ok (.iinc 4 1, 3) := by decide +kernel
theorem dX7_slipOf_71 : decode cX7_slipOf 71 = .ok (.goto (-66), 3) := by decide +kernel
theorem dX7_slipOf_74 : decode cX7_slipOf 74 = .ok (.iconst (-1), 1) := by decide +kernel
theorem dX7_slipOf_75 : decode cX7_slipOf 75 = .ok (.ireturn, 1) := by decide +kernel
set_option maxRecDepth 20000 in
theorem ggX7_isSlip_X5_numberOf : GoodIn wsX7_isSlip wsX5_numberOf := goodIn_r _ [8, 9, 43, 44, 45, 46, 47, 48, 49, 50, 51] (by decide +kernel) (by decide +kernel)
set_option maxRecDepth 20000 in
theorem gX7_isSlip_X5_numberOf_n264 : GoodIn wsX7_isSlip (wsX5_numberOf) := ggX7_isSlip_X5_numberOf
set_option maxRecDepth 20000 in
theorem ggX7_isSlip_X7_scaleOf : GoodIn wsX7_isSlip wsX7_scaleOf := goodIn_r _ [13] (by decide +kernel) (by decide +kernel)
set_option maxRecDepth 20000 in
theorem gX7_isSlip_X7_scaleOf : GoodIn wsX7_isSlip (va_wsS RX7 311 yX7_scaleOf wsX7_scaleOf) := goodIn_app (goodIn_of _ (by decide +kernel)) ggX7_isSlip_X7_scaleOf
set_option maxRecDepth 20000 in
theorem ggX7_isSlip_X1_are : GoodIn wsX7_isSlip wsX1_are := goodIn_r _ [17, 18, 52] (by decide +kernel) (by decide +kernel)
set_option maxRecDepth 20000 in
theorem gX7_isSlip_X1_are_n314 : GoodIn wsX7_isSlip (wsX1_are) := ggX7_isSlip_X1_are
set_option maxRecDepth 20000 in
theorem ggX7_isSlip_X5_isMended : GoodIn wsX7_isSlip wsX5_isMended := goodIn_r _ [21, 22, 23, 43, 44, 45, 46, 47, 48, 49, 50, 51] (by decide +kernel) (by decide +kernel)
set_option maxRecDepth 20000 in
theorem gX7_isSlip_X5_isMended_n319 : GoodIn wsX7_isSlip (wsX5_isMended) := ggX7_isSlip_X5_isMended
theorem dX7_isSlip_0 : decode cX7_isSlip 0 = .ok (.aload_n 0, 1) := by decide +kernel
theorem dX7_isSlip_1 : decode cX7_isSlip 1 = .ok (.getfield 26, 3) := by decide +kernel
theorem dX7_isSlip_4 : decode cX7_isSlip 4 = .ok (.iload_n 1, 1) := by decide +kernel
theorem dX7_isSlip_5 : decode cX7_isSlip 5 = .ok (.iload_n 2, 1) := by decide +kernel
theorem dX7_isSlip_6 : decode cX7_isSlip 6 = .ok (.invokevirtual 264, 3) := by decide +kernel
theorem dX7_isSlip_9 : decode cX7_isSlip 9 = .ok (.istore 5, 2) := by decide +kernel
theorem dX7_isSlip_11 : decode cX7_isSlip 11 = .ok (.iload_n 3, 1) := by decide +kernel
theorem dX7_isSlip_12 : decode cX7_isSlip 12 = .ok (.invokestatic 311, 3) := by decide +kernel
theorem dX7_isSlip_15 : decode cX7_isSlip 15 = .ok (.istore 6, 2) := by decide +kernel
theorem dX7_isSlip_17 : decode cX7_isSlip 17 = .ok (.iload_n 3, 1) := by decide +kernel
theorem dX7_isSlip_18 : decode cX7_isSlip 18 = .ok (.ifCond .eq 10, 3) := by decide +kernel
theorem dX7_isSlip_21 : decode cX7_isSlip 21 = .ok (.iload 5, 2) := by decide +kernel
theorem dX7_isSlip_23 : decode cX7_isSlip 23 = .ok (.iload 6, 2) := by decide +kernel
theorem dX7_isSlip_25 : decode cX7_isSlip 25 = .ok (.if_icmp .lt 7, 3) := by decide +kernel
theorem dX7_isSlip_28 : decode cX7_isSlip 28 = .ok (.iconst 1, 1) := by decide +kernel
theorem dX7_isSlip_29 : decode cX7_isSlip 29 = .ok (.goto 4, 3) := by decide +kernel
theorem dX7_isSlip_32 : decode cX7_isSlip 32 = .ok (.iconst 0, 1) := by decide +kernel
theorem dX7_isSlip_33 : decode cX7_isSlip 33 = .ok (.istore 7, 2) := by decide +kernel
theorem dX7_isSlip_35 : decode cX7_isSlip 35 = .ok (.iload 5, 2) := by decide +kernel
theorem dX7_isSlip_37 : decode cX7_isSlip 37 = .ok (.iload 6, 2) := by decide +kernel
theorem dX7_isSlip_39 : decode cX7_isSlip 39 = .ok (.idiv, 1) := by decide +kernel
theorem dX7_isSlip_40 : decode cX7_isSlip 40 = .ok (.bipush 10, 2) := by decide +kernel
theorem dX7_isSlip_42 : decode cX7_isSlip 42 = .ok (.irem, 1) := by decide +kernel
theorem dX7_isSlip_43 : decode cX7_isSlip 43 = .ok (.istore 8, 2) := by decide +kernel
theorem dX7_isSlip_45 : decode cX7_isSlip 45 = .ok (.iload 7, 2) := by decide +kernel
theorem dX7_isSlip_47 : decode cX7_isSlip 47 = .ok (.ifCond .eq 17, 3) := by decide +kernel
theorem dX7_isSlip_50 : decode cX7_isSlip 50 = .ok (.aload_n 0, 1) := by decide +kernel
theorem dX7_isSlip_51 : decode cX7_isSlip 51 = .ok (.getfield 33, 3) := by decide +kernel
theorem dX7_isSlip_54 : decode cX7_isSlip 54 = .ok (.iload 8, 2) := by decide +kernel
theorem dX7_isSlip_56 : decode cX7_isSlip 56 = .ok (.iload 4, 2) := by decide +kernel
theorem dX7_isSlip_58 : decode cX7_isSlip 58 = .ok (.invokevirtual 314, 3) := by decide +kernel
theorem dX7_isSlip_61 : decode cX7_isSlip 61 = .ok (.ifCond .ne 5, 3) := by decide +kernel
theorem dX7_isSlip_64 : decode cX7_isSlip 64 = .ok (.iconst 0, 1) := by decide +kernel
theorem dX7_isSlip_65 : decode cX7_isSlip 65 = .ok (.ireturn, 1) := by decide +kernel
theorem dX7_isSlip_66 : decode cX7_isSlip 66 = .ok (.aload_n 0, 1) := by decide +kernel
theorem dX7_isSlip_67 : decode cX7_isSlip 67 = .ok (.getfield 19, 3) := by decide +kernel
theorem dX7_isSlip_70 : decode cX7_isSlip 70 = .ok (.getfield 153, 3) := by decide +kernel
theorem dX7_isSlip_73 : decode cX7_isSlip 73 = .ok (.aload_n 0, 1) := by decide +kernel
theorem dX7_isSlip_74 : decode cX7_isSlip 74 = .ok (.getfield 26, 3) := by decide +kernel
theorem dX7_isSlip_77 : decode cX7_isSlip 77 = .ok (.getfield 317, 3) := by decide +kernel
theorem dX7_isSlip_80 : decode cX7_isSlip 80 = .ok (.iload_n 1, 1) := by decide +kernel
theorem dX7_isSlip_81 : decode cX7_isSlip 81 = .ok (.iaload, 1) := by decide +kernel
theorem dX7_isSlip_82 : decode cX7_isSlip 82 = .ok (.iaload, 1) := by decide +kernel
theorem dX7_isSlip_83 : decode cX7_isSlip 83 = .ok (.istore 9, 2) := by decide +kernel
theorem dX7_isSlip_85 : decode cX7_isSlip 85 = .ok (.aload_n 0, 1) := by decide +kernel
theorem dX7_isSlip_86 : decode cX7_isSlip 86 = .ok (.getfield 26, 3) := by decide +kernel
theorem dX7_isSlip_89 : decode cX7_isSlip 89 = .ok (.iload_n 1, 1) := by decide +kernel
theorem dX7_isSlip_90 : decode cX7_isSlip 90 = .ok (.iload_n 2, 1) := by decide +kernel
theorem dX7_isSlip_91 : decode cX7_isSlip 91 = .ok (.aload_n 0, 1) := by decide +kernel
theorem dX7_isSlip_92 : decode cX7_isSlip 92 = .ok (.getfield 64, 3) := by decide +kernel
theorem dX7_isSlip_95 : decode cX7_isSlip 95 = .ok (.iconst 1, 1) := by decide +kernel
theorem dX7_isSlip_96 : decode cX7_isSlip 96 = .ok (.iadd, 1) := by decide +kernel
theorem dX7_isSlip_97 : decode cX7_isSlip 97 = .ok (.if_icmp .ne 7, 3) := by decide +kernel
theorem dX7_isSlip_100 : decode cX7_isSlip 100 = .ok (.iconst 1, 1) := by decide +kernel
theorem dX7_isSlip_101 : decode cX7_isSlip 101 = .ok (.goto 4, 3) := by decide +kernel
theorem dX7_isSlip_104 : decode cX7_isSlip 104 = .ok (.iconst 0, 1) := by decide +kernel
theorem dX7_isSlip_105 : decode cX7_isSlip 105 = .ok (.iload 4, 2) := by decide +kernel
theorem dX7_isSlip_107 : decode cX7_isSlip 107 = .ok (.iload 8, 2) := by decide +kernel
theorem dX7_isSlip_109 : decode cX7_isSlip 109 = .ok (.isub, 1) := by decide +kernel
theorem dX7_isSlip_110 : decode cX7_isSlip 110 = .ok (.iload 6, 2) := by decide +kernel
theorem dX7_isSlip_112 : decode cX7_isSlip 112 = .ok (.imul, 1) := by decide +kernel
theorem dX7_isSlip_113 : decode cX7_isSlip 113 = .ok (.iload 9, 2) := by decide +kernel
theorem dX7_isSlip_115 : decode cX7_isSlip 115 = .ok (.invokevirtual 319, 3) := by decide +kernel
theorem dX7_isSlip_118 : decode cX7_isSlip 118 = .ok (.ireturn, 1) := by decide +kernel
theorem dX7_scaleOf_0 : decode cX7_scaleOf 0 = .ok (.iconst 1, 1) := by decide +kernel
theorem dX7_scaleOf_1 : decode cX7_scaleOf 1 = .ok (.istore_n 1, 1) := by decide +kernel
theorem dX7_scaleOf_2 : decode cX7_scaleOf 2 = .ok (.iconst 0, 1) := by decide +kernel
theorem dX7_scaleOf_3 : decode cX7_scaleOf 3 = .ok (.istore_n 2, 1) := by decide +kernel
theorem dX7_scaleOf_4 : decode cX7_scaleOf 4 = .ok (.iload_n 2, 1) := by decide +kernel
theorem dX7_scaleOf_5 : decode cX7_scaleOf 5 = .ok (.iload_n 0, 1) := by decide +kernel
theorem dX7_scaleOf_6 : decode cX7_scaleOf 6 = .ok (.if_icmp .ge 14, 3) := by decide +kernel
theorem dX7_scaleOf_9 : decode cX7_scaleOf 9 = .ok (.iload_n 1, 1) := by decide +kernel
theorem dX7_scaleOf_10 : decode cX7_scaleOf 10 = .ok (.bipush 10, 2) := by decide +kernel
theorem dX7_scaleOf_12 : decode cX7_scaleOf 12 = .ok (.imul, 1) := by decide +kernel
theorem dX7_scaleOf_13 : decode cX7_scaleOf 13 = .ok (.istore_n 1, 1) := by decide +kernel
theorem dX7_scaleOf_14 : decode cX7_scaleOf 14 = .ok (.iinc 2 1, 3) := by decide +kernel
theorem dX7_scaleOf_17 : decode cX7_scaleOf 17 = .ok (.goto (-13), 3) := by decide +kernel
theorem dX7_scaleOf_20 : decode cX7_scaleOf 20 = .ok (.iload_n 1, 1) := by decide +kernel
theorem dX7_scaleOf_21 : decode cX7_scaleOf 21 = .ok (.ireturn, 1) := by decide +kernel
theorem dX7_rootAtLeast_0 : decode cX7_rootAtLeast 0 = .ok (.lload_n 0, 1) := by decide +kernel
theorem dX7_rootAtLeast_1 : decode cX7_rootAtLeast 1 = .ok (.lconst 0, 1) := by decide +kernel
theorem dX7_rootAtLeast_2 : decode cX7_rootAtLeast 2 = .ok (.lcmp, 1) := by decide +kernel
theorem dX7_rootAtLeast_3 : decode cX7_rootAtLeast 3 = .ok (.ifCond .gt 5, 3) := by decide +kernel
theorem dX7_rootAtLeast_6 : decode cX7_rootAtLeast 6 = .ok (.iconst 0, 1) := by decide +kernel
theorem dX7_rootAtLeast_7 : decode cX7_rootAtLeast 7 = .ok (.ireturn, 1) := by decide +kernel
theorem dX7_rootAtLeast_8 : decode cX7_rootAtLeast 8 = .ok (.lconst 0, 1) := by decide +kernel
theorem dX7_rootAtLeast_9 : decode cX7_rootAtLeast 9 = .ok (.lstore_n 2, 1) := by decide +kernel
theorem dX7_rootAtLeast_10 : decode cX7_rootAtLeast 10 = .ok (.ldc2_w 323, 3) := by decide +kernel
theorem dX7_rootAtLeast_13 : decode cX7_rootAtLeast 13 = .ok (.lstore 4, 2) := by decide +kernel
theorem dX7_rootAtLeast_15 : decode cX7_rootAtLeast 15 = .ok (.lload 4, 2) := by decide +kernel
theorem dX7_rootAtLeast_17 : decode cX7_rootAtLeast 17 = .ok (.lconst 0, 1) := by decide +kernel
theorem dX7_rootAtLeast_18 : decode cX7_rootAtLeast 18 = .ok (.lcmp, 1) := by decide +kernel
theorem dX7_rootAtLeast_19 : decode cX7_rootAtLeast 19 = .ok (.ifCond .le 33, 3) := by decide +kernel
theorem dX7_rootAtLeast_22 : decode cX7_rootAtLeast 22 = .ok (.lload_n 2, 1) := by decide +kernel
theorem dX7_rootAtLeast_23 : decode cX7_rootAtLeast 23 = .ok (.lload 4, 2) := by decide +kernel
theorem dX7_rootAtLeast_25 : decode cX7_rootAtLeast 25 = .ok (.ladd, 1) := by decide +kernel
theorem dX7_rootAtLeast_26 : decode cX7_rootAtLeast 26 = .ok (.lstore 6, 2) := by decide +kernel
theorem dX7_rootAtLeast_28 : decode cX7_rootAtLeast 28 = .ok (.lload 6, 2) := by decide +kernel
theorem dX7_rootAtLeast_30 : decode cX7_rootAtLeast 30 = .ok (.lload 6, 2) := by decide +kernel
theorem dX7_rootAtLeast_32 : decode cX7_rootAtLeast 32 = .ok (.lmul, 1) := by decide +kernel
theorem dX7_rootAtLeast_33 : decode cX7_rootAtLeast 33 = .ok (.lload_n 0, 1) := by decide +kernel
theorem dX7_rootAtLeast_34 : decode cX7_rootAtLeast 34 = .ok (.lcmp, 1) := by decide +kernel
theorem dX7_rootAtLeast_35 : decode cX7_rootAtLeast 35 = .ok (.ifCond .ge 6, 3) := by decide +kernel
theorem dX7_rootAtLeast_38 : decode cX7_rootAtLeast 38 = .ok (.lload 6, 2) := by decide +kernel
theorem dX7_rootAtLeast_40 : decode cX7_rootAtLeast 40 = .ok (.lstore_n 2, 1) := by decide +kernel
theorem dX7_rootAtLeast_41 : decode cX7_rootAtLeast 41 = .ok (.lload 4, 2) := by decide +kernel
theorem dX7_rootAtLeast_43 : decode cX7_rootAtLeast 43 = .ok (.ldc2_w 325, 3) := by decide +kernel
theorem dX7_rootAtLeast_46 : decode cX7_rootAtLeast 46 = .ok (.ldiv, 1) := by decide +kernel
theorem dX7_rootAtLeast_47 : decode cX7_rootAtLeast 47 = .ok (.lstore 4, 2) := by decide +kernel
theorem dX7_rootAtLeast_49 : decode cX7_rootAtLeast 49 = .ok (.goto (-34), 3) := by decide +kernel
theorem dX7_rootAtLeast_52 : decode cX7_rootAtLeast 52 = .ok (.lload_n 2, 1) := by decide +kernel
theorem dX7_rootAtLeast_53 : decode cX7_rootAtLeast 53 = .ok (.lconst 1, 1) := by decide +kernel
theorem dX7_rootAtLeast_54 : decode cX7_rootAtLeast 54 = .ok (.ladd, 1) := by decide +kernel
theorem dX7_rootAtLeast_55 : decode cX7_rootAtLeast 55 = .ok (.l2i, 1) := by decide +kernel
theorem dX7_rootAtLeast_56 : decode cX7_rootAtLeast 56 = .ok (.ireturn, 1) := by decide +kernel
theorem dX7_waysAtLeast_0 : decode cX7_waysAtLeast 0 = .ok (.lconst 1, 1) := by decide +kernel
theorem dX7_waysAtLeast_1 : decode cX7_waysAtLeast 1 = .ok (.lstore_n 2, 1) := by decide +kernel
theorem dX7_waysAtLeast_2 : decode cX7_waysAtLeast 2 = .ok (.lconst 0, 1) := by decide +kernel
theorem dX7_waysAtLeast_3 : decode cX7_waysAtLeast 3 = .ok (.lstore 4, 2) := by decide +kernel
theorem dX7_waysAtLeast_5 : decode cX7_waysAtLeast 5 = .ok (.iconst 0, 1) := by decide +kernel
theorem dX7_waysAtLeast_6 : decode cX7_waysAtLeast 6 = .ok (.istore 6, 2) := by decide +kernel
theorem dX7_waysAtLeast_8 : decode cX7_waysAtLeast 8 = .ok (.iload 6, 2) := by decide +kernel
theorem dX7_waysAtLeast_10 : decode cX7_waysAtLeast 10 = .ok (.iload_n 1, 1) := by decide +kernel
theorem dX7_waysAtLeast_11 : decode cX7_waysAtLeast 11 = .ok (.if_icmp .gt 35, 3) := by decide +kernel
theorem dX7_waysAtLeast_14 : decode cX7_waysAtLeast 14 = .ok (.iload 6, 2) := by decide +kernel
theorem dX7_waysAtLeast_16 : decode cX7_waysAtLeast 16 = .ok (.iload_n 0, 1) := by decide +kernel
theorem dX7_waysAtLeast_17 : decode cX7_waysAtLeast 17 = .ok (.if_icmp .lt 9, 3) := by decide +kernel
theorem dX7_waysAtLeast_20 : decode cX7_waysAtLeast 20 = .ok (.lload 4, 2) := by decide +kernel
theorem dX7_waysAtLeast_22 : decode cX7_waysAtLeast 22 = .ok (.lload_n 2, 1) := by decide +kernel
theorem dX7_waysAtLeast_23 : decode cX7_waysAtLeast 23 = .ok (.ladd, 1) := by decide +kernel
theorem dX7_waysAtLeast_24 : decode cX7_waysAtLeast 24 = .ok (.lstore 4, 2) := by decide +kernel
theorem dX7_waysAtLeast_26 : decode cX7_waysAtLeast 26 = .ok (.lload_n 2, 1) := by decide +kernel
theorem dX7_waysAtLeast_27 : decode cX7_waysAtLeast 27 = .ok (.iload_n 1, 1) := by decide +kernel
theorem dX7_waysAtLeast_28 : decode cX7_waysAtLeast 28 = .ok (.iload 6, 2) := by decide +kernel
theorem dX7_waysAtLeast_30 : decode cX7_waysAtLeast 30 = .ok (.isub, 1) := by decide +kernel
theorem dX7_waysAtLeast_31 : decode cX7_waysAtLeast 31 = .ok (.i2l, 1) := by decide +kernel
theorem dX7_waysAtLeast_32 : decode cX7_waysAtLeast 32 = .ok (.lmul, 1) := by decide +kernel
theorem dX7_waysAtLeast_33 : decode cX7_waysAtLeast 33 = .ok (.iload 6, 2) := by decide +kernel
theorem dX7_waysAtLeast_35 : decode cX7_waysAtLeast 35 = .ok (.iconst 1, 1) := by decide +kernel
theorem dX7_waysAtLeast_36 : decode cX7_waysAtLeast 36 = .ok (.iadd, 1) := by decide +kernel
theorem dX7_waysAtLeast_37 : decode cX7_waysAtLeast 37 = .ok (.i2l, 1) := by decide +kernel
theorem dX7_waysAtLeast_38 : decode cX7_waysAtLeast 38 = .ok (.ldiv, 1) := by decide +kernel
theorem dX7_waysAtLeast_39 : decode cX7_waysAtLeast 39 = .ok (.lstore_n 2, 1) := by decide +kernel
theorem dX7_waysAtLeast_40 : decode cX7_waysAtLeast 40 = .ok (.iinc 6 1, 3) := by decide +kernel
theorem dX7_waysAtLeast_43 : decode cX7_waysAtLeast 43 = .ok (.goto (-35), 3) := by decide +kernel
theorem dX7_waysAtLeast_46 : decode cX7_waysAtLeast 46 = .ok (.lload 4, 2) := by decide +kernel
theorem dX7_waysAtLeast_48 : decode cX7_waysAtLeast 48 = .ok (.lreturn, 1) := by decide +kernel
