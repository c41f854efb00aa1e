-- the program's names, words and instructions, as printed by TURN
set_option maxRecDepth 20000 in
theorem ggX0_ofFloat_X0_join : GoodIn wsX0_ofFloat wsX0_join := goodIn_r _ [4, 5] (by decide +kernel) (by decide +kernel)
set_option maxRecDepth 20000 in
theorem gX0_ofFloat_X0_join : GoodIn wsX0_ofFloat (va_wsS RX0 7 yX0_join wsX0_join) := goodIn_app (goodIn_of _ (by decide +kernel)) ggX0_ofFloat_X0_join
theorem dX0_ofFloat_0 : decode cX0_ofFloat 0 = .ok (.fload_n 0, 1) := by decide +kernel
theorem dX0_ofFloat_1 : decode cX0_ofFloat 1 = .ok (.f2d, 1) := by decide +kernel
theorem dX0_ofFloat_2 : decode cX0_ofFloat 2 = .ok (.bipush 127, 2) := by decide +kernel
theorem dX0_ofFloat_4 : decode cX0_ofFloat 4 = .ok (.bipush 23, 2) := by decide +kernel
theorem dX0_ofFloat_6 : decode cX0_ofFloat 6 = .ok (.invokestatic 7, 3) := by decide +kernel
theorem dX0_ofFloat_9 : decode cX0_ofFloat 9 = .ok (.l2i, 1) := by decide +kernel
theorem dX0_ofFloat_10 : decode cX0_ofFloat 10 = .ok (.ireturn, 1) := by decide +kernel
set_option maxRecDepth 20000 in
theorem ggX0_ofDouble_X0_join : GoodIn wsX0_ofDouble wsX0_join := goodIn_r _ [4, 5] (by decide +kernel) (by decide +kernel)
set_option maxRecDepth 20000 in
theorem gX0_ofDouble_X0_join : GoodIn wsX0_ofDouble (va_wsS RX0 7 yX0_join wsX0_join) := goodIn_app (goodIn_of _ (by decide +kernel)) ggX0_ofDouble_X0_join
theorem dX0_ofDouble_0 : decode cX0_ofDouble 0 = .ok (.dload_n 0, 1) := by decide +kernel
theorem dX0_ofDouble_1 : decode cX0_ofDouble 1 = .ok (.sipush 1023, 3) := by decide +kernel
theorem dX0_ofDouble_4 : decode cX0_ofDouble 4 = .ok (.bipush 52, 2) := by decide +kernel
theorem dX0_ofDouble_6 : decode cX0_ofDouble 6 = .ok (.invokestatic 7, 3) := by decide +kernel
theorem dX0_ofDouble_9 : decode cX0_ofDouble 9 = .ok (.lreturn, 1) := by decide +kernel
theorem dX0_join_0 : decode cX0_join 0 = .ok (.dload_n 0, 1) := by decide +kernel
theorem dX0_join_1 : decode cX0_join 1 = .ok (.dconst 0, 1) := by decide +kernel
theorem dX0_join_2 : decode cX0_join 2 = .ok (.dcmp .g, 1) := by decide +kernel
theorem dX0_join_3 : decode cX0_join 3 = .ok (.ifCond .gt 5, 3) := by decide +kernel
theorem dX0_join_6 : decode cX0_join 6 = .ok (.lconst 0, 1) := by decide +kernel
theorem dX0_join_7 : decode cX0_join 7 = .ok (.lreturn, 1) := by decide +kernel
theorem dX0_join_8 : decode cX0_join 8 = .ok (.lconst 1, 1) := by decide +kernel
theorem dX0_join_9 : decode cX0_join 9 = .ok (.iload_n 3, 1) := by decide +kernel
theorem dX0_join_10 : decode cX0_join 10 = .ok (.lshl, 1) := by decide +kernel
theorem dX0_join_11 : decode cX0_join 11 = .ok (.lstore 4, 2) := by decide +kernel
theorem dX0_join_13 : decode cX0_join 13 = .ok (.dload_n 0, 1) := by decide +kernel
theorem dX0_join_14 : decode cX0_join 14 = .ok (.dstore 6, 2) := by decide +kernel
theorem dX0_join_16 : decode cX0_join 16 = .ok (.iload_n 2, 1) := by decide +kernel
theorem dX0_join_17 : decode cX0_join 17 = .ok (.istore 8, 2) := by decide +kernel
theorem dX0_join_19 : decode cX0_join 19 = .ok (.iconst 0, 1) := by decide +kernel
theorem dX0_join_20 : decode cX0_join 20 = .ok (.istore 9, 2) := by decide +kernel
theorem dX0_join_22 : decode cX0_join 22 = .ok (.iload 9, 2) := by decide +kernel
theorem dX0_join_24 : decode cX0_join 24 = .ok (.iload_n 2, 1) := by decide +kernel
theorem dX0_join_25 : decode cX0_join 25 = .ok (.if_icmp .ge 29, 3) := by decide +kernel
theorem dX0_join_28 : decode cX0_join 28 = .ok (.dload 6, 2) := by decide +kernel
theorem dX0_join_30 : decode cX0_join 30 = .ok (.ldc2_w 13, 3) := by decide +kernel
theorem dX0_join_33 : decode cX0_join 33 = .ok (.dcmp .l, 1) := by decide +kernel
theorem dX0_join_34 : decode cX0_join 34 = .ok (.ifCond .lt 20, 3) := by decide +kernel
theorem dX0_join_37 : decode cX0_join 37 = .ok (.dload 6, 2) := by decide +kernel
theorem dX0_join_39 : decode cX0_join 39 = .ok (.ldc2_w 13, 3) := by decide +kernel
theorem dX0_join_42 : decode cX0_join 42 = .ok (.ddiv, 1) := by decide +kernel
theorem dX0_join_43 : decode cX0_join 43 = .ok (.dstore 6, 2) := by decide +kernel
theorem dX0_join_45 : decode cX0_join 45 = .ok (.iinc 8 1, 3) := by decide +kernel
theorem dX0_join_48 : decode cX0_join 48 = .ok (.iinc 9 1, 3) := by decide +kernel
theorem dX0_join_51 : decode cX0_join 51 = .ok (.goto (-29), 3) := by decide +kernel
theorem dX0_join_54 : decode cX0_join 54 = .ok (.iconst 0, 1) := by decide +kernel
theorem dX0_join_55 : decode cX0_join 55 = .ok (.istore 9, 2) := by decide +kernel
theorem dX0_join_57 : decode cX0_join 57 = .ok (.iload 9, 2) := by decide +kernel
theorem dX0_join_59 : decode cX0_join 59 = .ok (.iload_n 2, 1) := by decide +kernel
theorem dX0_join_60 : decode cX0_join 60 = .ok (.if_icmp .ge 27, 3) := by decide +kernel
theorem dX0_join_63 : decode cX0_join 63 = .ok (.dload 6, 2) := by decide +kernel
theorem dX0_join_65 : decode cX0_join 65 = .ok (.dconst 1, 1) := by decide +kernel
theorem dX0_join_66 : decode cX0_join 66 = .ok (.dcmp .g, 1) := by decide +kernel
theorem dX0_join_67 : decode cX0_join 67 = .ok (.ifCond .ge 20, 3) := by decide +kernel
theorem dX0_join_70 : decode cX0_join 70 = .ok (.dload 6, 2) := by decide +kernel
theorem dX0_join_72 : decode cX0_join 72 = .ok (.ldc2_w 13, 3) := by decide +kernel
theorem dX0_join_75 : decode cX0_join 75 = .ok (.dmul, 1) := by decide +kernel
theorem dX0_join_76 : decode cX0_join 76 = .ok (.dstore 6, 2) := by decide +kernel
theorem dX0_join_78 : decode cX0_join 78 = .ok (.iinc 8 (-1), 3) := by decide +kernel
theorem dX0_join_81 : decode cX0_join 81 = .ok (.iinc 9 1, 3) := by decide +kernel
theorem dX0_join_84 : decode cX0_join 84 = .ok (.goto (-27), 3) := by decide +kernel
theorem dX0_join_87 : decode cX0_join 87 = .ok (.iload 8, 2) := by decide +kernel
theorem dX0_join_89 : decode cX0_join 89 = .ok (.i2l, 1) := by decide +kernel
theorem dX0_join_90 : decode cX0_join 90 = .ok (.lload 4, 2) := by decide +kernel
theorem dX0_join_92 : decode cX0_join 92 = .ok (.lmul, 1) := by decide +kernel
theorem dX0_join_93 : decode cX0_join 93 = .ok (.dload 6, 2) := by decide +kernel
theorem dX0_join_95 : decode cX0_join 95 = .ok (.dconst 1, 1) := by decide +kernel
theorem dX0_join_96 : decode cX0_join 96 = .ok (.dsub, 1) := by decide +kernel
theorem dX0_join_97 : decode cX0_join 97 = .ok (.lload 4, 2) := by decide +kernel
theorem dX0_join_99 : decode cX0_join 99 = .ok (.l2d, 1) := by decide +kernel
theorem dX0_join_100 : decode cX0_join 100 = .ok (.dmul, 1) := by decide +kernel
theorem dX0_join_101 : decode cX0_join 101 = .ok (.d2l, 1) := by decide +kernel
theorem dX0_join_102 : decode cX0_join 102 = .ok (.ladd, 1) := by decide +kernel
theorem dX0_join_103 : decode cX0_join 103 = .ok (.lreturn, 1) := by decide +kernel
theorem dX1_init_0 : decode cX1_init 0 = .ok (.aload_n 0, 1) := by decide +kernel
theorem dX1_init_1 : decode cX1_init 1 = .ok (.invokespecial 3, 3) := by decide +kernel
theorem dX1_init_4 : decode cX1_init 4 = .ok (.aload_n 0, 1) := by decide +kernel
theorem dX1_init_5 : decode cX1_init 5 = .ok (.bipush 6, 2) := by decide +kernel
theorem dX1_init_7 : decode cX1_init 7 = .ok (.newarray .int, 2) := by decide +kernel
theorem dX1_init_9 : decode cX1_init 9 = .ok (.putfield 11, 3) := by decide +kernel
theorem dX1_init_12 : decode cX1_init 12 = .ok (.aload_n 0, 1) := by decide +kernel
theorem dX1_init_13 : decode cX1_init 13 = .ok (.bipush 6, 2) := by decide +kernel
theorem dX1_init_15 : decode cX1_init 15 = .ok (.newarray .int, 2) := by decide +kernel
theorem dX1_init_17 : decode cX1_init 17 = .ok (.putfield 15, 3) := by decide +kernel
theorem dX1_init_20 : decode cX1_init 20 = .ok (.aload_n 0, 1) := by decide +kernel
theorem dX1_init_21 : decode cX1_init 21 = .ok (.bipush 6, 2) := by decide +kernel
theorem dX1_init_23 : decode cX1_init 23 = .ok (.newarray .int, 2) := by decide +kernel
theorem dX1_init_25 : decode cX1_init 25 = .ok (.putfield 18, 3) := by decide +kernel
theorem dX1_init_28 : decode cX1_init 28 = .ok (.aload_n 0, 1) := by decide +kernel
theorem dX1_init_29 : decode cX1_init 29 = .ok (.iconst 3, 1) := by decide +kernel
theorem dX1_init_30 : decode cX1_init 30 = .ok (.putfield 21, 3) := by decide +kernel
theorem dX1_init_33 : decode cX1_init 33 = .ok (.return_, 1) := by decide +kernel
theorem dX1_become_0 : decode cX1_become 0 = .ok (.aload_n 1, 1) := by decide +kernel
theorem dX1_become_1 : decode cX1_become 1 = .ok (.getfield 11, 3) := by decide +kernel
theorem dX1_become_4 : decode cX1_become 4 = .ok (.iconst 0, 1) := by decide +kernel
theorem dX1_become_5 : decode cX1_become 5 = .ok (.aload_n 0, 1) := by decide +kernel
theorem dX1_become_6 : decode cX1_become 6 = .ok (.getfield 11, 3) := by decide +kernel
theorem dX1_become_9 : decode cX1_become 9 = .ok (.iconst 0, 1) := by decide +kernel
theorem dX1_become_10 : decode cX1_become 10 = .ok (.bipush 6, 2) := by decide +kernel
theorem dX1_become_12 : decode cX1_become 12 = .ok (.invokestatic 25, 3) := by decide +kernel
theorem dX1_become_15 : decode cX1_become 15 = .ok (.aload_n 1, 1) := by decide +kernel
theorem dX1_become_16 : decode cX1_become 16 = .ok (.getfield 15, 3) := by decide +kernel
theorem dX1_become_19 : decode cX1_become 19 = .ok (.iconst 0, 1) := by decide +kernel
theorem dX1_become_20 : decode cX1_become 20 = .ok (.aload_n 0, 1) := by decide +kernel
theorem dX1_become_21 : decode cX1_become 21 = .ok (.getfield 15, 3) := by decide +kernel
theorem dX1_become_24 : decode cX1_become 24 = .ok (.iconst 0, 1) := by decide +kernel
theorem dX1_become_25 : decode cX1_become 25 = .ok (.bipush 6, 2) := by decide +kernel
theorem dX1_become_27 : decode cX1_become 27 = .ok (.invokestatic 25, 3) := by decide +kernel
theorem dX1_become_30 : decode cX1_become 30 = .ok (.aload_n 1, 1) := by decide +kernel
theorem dX1_become_31 : decode cX1_become 31 = .ok (.getfield 18, 3) := by decide +kernel
theorem dX1_become_34 : decode cX1_become 34 = .ok (.iconst 0, 1) := by decide +kernel
theorem dX1_become_35 : decode cX1_become 35 = .ok (.aload_n 0, 1) := by decide +kernel
theorem dX1_become_36 : decode cX1_become 36 = .ok (.getfield 18, 3) := by decide +kernel
theorem dX1_become_39 : decode cX1_become 39 = .ok (.iconst 0, 1) := by decide +kernel
theorem dX1_become_40 : decode cX1_become 40 = .ok (.bipush 6, 2) := by decide +kernel
theorem dX1_become_42 : decode cX1_become 42 = .ok (.invokestatic 25, 3) := by decide +kernel
theorem dX1_become_45 : decode cX1_become 45 = .ok (.aload_n 0, 1) := by decide +kernel
theorem dX1_become_46 : decode cX1_become 46 = .ok (.aload_n 1, 1) := by decide +kernel
theorem dX1_become_47 : decode cX1_become 47 = .ok (.getfield 31, 3) := by decide +kernel
theorem dX1_become_50 : decode cX1_become 50 = .ok (.putfield 31, 3) := by decide +kernel
theorem dX1_become_53 : decode cX1_become 53 = .ok (.aload_n 0, 1) := by decide +kernel
theorem dX1_become_54 : decode cX1_become 54 = .ok (.aload_n 1, 1) := by decide +kernel
theorem dX1_become_55 : decode cX1_become 55 = .ok (.getfield 34, 3) := by decide +kernel
theorem dX1_become_58 : decode cX1_become 58 = .ok (.putfield 34, 3) := by decide +kernel
theorem dX1_become_61 : decode cX1_become 61 = .ok (.aload_n 0, 1) := by decide +kernel
theorem dX1_become_62 : decode cX1_become 62 = .ok (.aload_n 1, 1) := by decide +kernel
theorem dX1_become_63 : decode cX1_become 63 = .ok (.getfield 21, 3) := by decide +kernel
theorem dX1_become_66 : decode cX1_become 66 = .ok (.putfield 21, 3) := by decide +kernel
theorem dX1_become_69 : decode cX1_become 69 = .ok (.aload_n 0, 1) := by decide +kernel
theorem dX1_become_70 : decode cX1_become 70 = .ok (.aload_n 1, 1) := by decide +kernel
theorem dX1_become_71 : decode cX1_become 71 = .ok (.getfield 37, 3) := by decide +kernel
theorem dX1_become_74 : decode cX1_become 74 = .ok (.putfield 37, 3) := by decide +kernel
theorem dX1_become_77 : decode cX1_become 77 = .ok (.return_, 1) := by decide +kernel
set_option maxRecDepth 20000 in
theorem ggX1_renew_X1_insert : GoodIn wsX1_renew wsX1_insert := goodIn_r _ [8, 9, 10, 11, 12, 13, 7, 14, 15, 16, 17, 18, 19, 20, 21] (by decide +kernel) (by decide +kernel)
set_option maxRecDepth 20000 in
theorem gX1_renew_X1_insert : GoodIn wsX1_renew (wsV RX1 40 RX1 yX1_insert wsX1_insert) := goodIn_app (goodIn_of _ (by decide +kernel)) ggX1_renew_X1_insert
theorem dX1_renew_0 : decode cX1_renew 0 = .ok (.iconst 0, 1) := by decide +kernel
theorem dX1_renew_1 : decode cX1_renew 1 = .ok (.istore_n 2, 1) := by decide +kernel
theorem dX1_renew_2 : decode cX1_renew 2 = .ok (.iload_n 2, 1) := by decide +kernel
theorem dX1_renew_3 : decode cX1_renew 3 = .ok (.bipush 6, 2) := by decide +kernel
theorem dX1_renew_5 : decode cX1_renew 5 = .ok (.if_icmp .ge 16, 3) := by decide +kernel
theorem dX1_renew_8 : decode cX1_renew 8 = .ok (.aload_n 0, 1) := by decide +kernel
theorem dX1_renew_9 : decode cX1_renew 9 = .ok (.iload_n 2, 1) := by decide +kernel
theorem dX1_renew_10 : decode cX1_renew 10 = .ok (.iconst 0, 1) := by decide +kernel
theorem dX1_renew_11 : decode cX1_renew 11 = .ok (.iconst 0, 1) := by decide +kernel
theorem dX1_renew_12 : decode cX1_renew 12 = .ok (.invokevirtual 40, 3) := by decide +kernel
theorem dX1_renew_15 : decode cX1_renew 15 = .ok (.iinc 2 1, 3) := by decide +kernel
theorem dX1_renew_18 : decode cX1_renew 18 = .ok (.goto (-16), 3) := by decide +kernel
theorem dX1_renew_21 : decode cX1_renew 21 = .ok (.aload_n 0, 1) := by decide +kernel
theorem dX1_renew_22 : decode cX1_renew 22 = .ok (.iload_n 1, 1) := by decide +kernel
theorem dX1_renew_23 : decode cX1_renew 23 = .ok (.putfield 31, 3) := by decide +kernel
theorem dX1_renew_26 : decode cX1_renew 26 = .ok (.aload_n 0, 1) := by decide +kernel
theorem dX1_renew_27 : decode cX1_renew 27 = .ok (.iconst 0, 1) := by decide +kernel
theorem dX1_renew_28 : decode cX1_renew 28 = .ok (.putfield 34, 3) := by decide +kernel
theorem dX1_renew_31 : decode cX1_renew 31 = .ok (.aload_n 0, 1) := by decide +kernel
theorem dX1_renew_32 : decode cX1_renew 32 = .ok (.iconst 0, 1) := by decide +kernel
theorem dX1_renew_33 : decode cX1_renew 33 = .ok (.putfield 37, 3) := by decide +kernel
theorem dX1_renew_36 : decode cX1_renew 36 = .ok (.return_, 1) := by decide +kernel
set_option maxRecDepth 20000 in
theorem ggX1_insert_X1_isPlace : GoodIn wsX1_insert wsX1_isPlace := goodIn_r _ [7] (by decide +kernel) (by decide +kernel)
set_option maxRecDepth 20000 in
theorem gX1_insert_X1_isPlace : GoodIn wsX1_insert (va_wsS RX1 44 yX1_isPlace wsX1_isPlace) := goodIn_app (goodIn_of _ (by decide +kernel)) ggX1_insert_X1_isPlace
theorem dX1_insert_0 : decode cX1_insert 0 = .ok (.iload_n 1, 1) := by decide +kernel
theorem dX1_insert_1 : decode cX1_insert 1 = .ok (.invokestatic 44, 3) := by decide +kernel
theorem dX1_insert_4 : decode cX1_insert 4 = .ok (.ifCond .eq 24, 3) := by decide +kernel
theorem dX1_insert_7 : decode cX1_insert 7 = .ok (.aload_n 0, 1) := by decide +kernel
theorem dX1_insert_8 : decode cX1_insert 8 = .ok (.getfield 11, 3) := by decide +kernel
theorem dX1_insert_11 : decode cX1_insert 11 = .ok (.iload_n 1, 1) := by decide +kernel
theorem dX1_insert_12 : decode cX1_insert 12 = .ok (.iload_n 2, 1) := by decide +kernel
theorem dX1_insert_13 : decode cX1_insert 13 = .ok (.iastore, 1) := by decide +kernel
theorem dX1_insert_14 : decode cX1_insert 14 = .ok (.aload_n 0, 1) := by decide +kernel
theorem dX1_insert_15 : decode cX1_insert 15 = .ok (.getfield 15, 3) := by decide +kernel
theorem dX1_insert_18 : decode cX1_insert 18 = .ok (.iload_n 1, 1) := by decide +kernel
theorem dX1_insert_19 : decode cX1_insert 19 = .ok (.iload_n 3, 1) := by decide +kernel
theorem dX1_insert_20 : decode cX1_insert 20 = .ok (.iastore, 1) := by decide +kernel
theorem dX1_insert_21 : decode cX1_insert 21 = .ok (.aload_n 0, 1) := by decide +kernel
theorem dX1_insert_22 : decode cX1_insert 22 = .ok (.getfield 18, 3) := by decide +kernel
theorem dX1_insert_25 : decode cX1_insert 25 = .ok (.iload_n 1, 1) := by decide +kernel
theorem dX1_insert_26 : decode cX1_insert 26 = .ok (.iconst 0, 1) := by decide +kernel
theorem dX1_insert_27 : decode cX1_insert 27 = .ok (.iastore, 1) := by decide +kernel
theorem dX1_insert_28 : decode cX1_insert 28 = .ok (.return_, 1) := by decide +kernel
set_option maxRecDepth 20000 in
theorem ggX1_hasLamp_X1_isPlace : GoodIn wsX1_hasLamp wsX1_isPlace := goodIn_r _ [5] (by decide +kernel) (by decide +kernel)
set_option maxRecDepth 20000 in
theorem gX1_hasLamp_X1_isPlace : GoodIn wsX1_hasLamp (va_wsS RX1 44 yX1_isPlace wsX1_isPlace) := goodIn_app (goodIn_of _ (by decide +kernel)) ggX1_hasLamp_X1_isPlace
theorem dX1_hasLamp_0 : decode cX1_hasLamp 0 = .ok (.iload_n 1, 1) := by decide +kernel
theorem dX1_hasLamp_1 : decode cX1_hasLamp 1 = .ok (.invokestatic 44, 3) := by decide +kernel
theorem dX1_hasLamp_4 : decode cX1_hasLamp 4 = .ok (.ifCond .eq 16, 3) := by decide +kernel
theorem dX1_hasLamp_7 : decode cX1_hasLamp 7 = .ok (.aload_n 0, 1) := by decide +kernel
theorem dX1_hasLamp_8 : decode cX1_hasLamp 8 = .ok (.getfield 15, 3) := by decide +kernel
theorem dX1_hasLamp_11 : decode cX1_hasLamp 11 = .ok (.iload_n 1, 1) := by decide +kernel
theorem dX1_hasLamp_12 : decode cX1_hasLamp 12 = .ok (.iaload, 1) := by decide +kernel
theorem dX1_hasLamp_13 : decode cX1_hasLamp 13 = .ok (.ifCond .le 7, 3) := by decide +kernel
theorem dX1_hasLamp_16 : decode cX1_hasLamp 16 = .ok (.iconst 1, 1) := by decide +kernel
theorem dX1_hasLamp_17 : decode cX1_hasLamp 17 = .ok (.goto 4, 3) := by decide +kernel
theorem dX1_hasLamp_20 : decode cX1_hasLamp 20 = .ok (.iconst 0, 1) := by decide +kernel
theorem dX1_hasLamp_21 : decode cX1_hasLamp 21 = .ok (.ireturn, 1) := by decide +kernel
set_option maxRecDepth 20000 in
theorem ggX1_intensityOf_X1_isPlace : GoodIn wsX1_intensityOf wsX1_isPlace := goodIn_r _ [5] (by decide +kernel) (by decide +kernel)
set_option maxRecDepth 20000 in
theorem gX1_intensityOf_X1_isPlace : GoodIn wsX1_intensityOf (va_wsS RX1 44 yX1_isPlace wsX1_isPlace) := goodIn_app (goodIn_of _ (by decide +kernel)) ggX1_intensityOf_X1_isPlace
theorem dX1_intensityOf_0 : decode cX1_intensityOf 0 = .ok (.iload_n 1, 1) := by decide +kernel
theorem dX1_intensityOf_1 : decode cX1_intensityOf 1 = .ok (.invokestatic 44, 3) := by decide +kernel
theorem dX1_intensityOf_4 : decode cX1_intensityOf 4 = .ok (.ifCond .eq 12, 3) := by decide +kernel
theorem dX1_intensityOf_7 : decode cX1_intensityOf 7 = .ok (.aload_n 0, 1) := by decide +kernel
theorem dX1_intensityOf_8 : decode cX1_intensityOf 8 = .ok (.getfield 11, 3) := by decide +kernel
theorem dX1_intensityOf_11 : decode cX1_intensityOf 11 = .ok (.iload_n 1, 1) := by decide +kernel
theorem dX1_intensityOf_12 : decode cX1_intensityOf 12 = .ok (.iaload, 1) := by decide +kernel
theorem dX1_intensityOf_13 : decode cX1_intensityOf 13 = .ok (.goto 4, 3) := by decide +kernel
theorem dX1_intensityOf_16 : decode cX1_intensityOf 16 = .ok (.iconst 0, 1) := by decide +kernel
theorem dX1_intensityOf_17 : decode cX1_intensityOf 17 = .ok (.ireturn, 1) := by decide +kernel
set_option maxRecDepth 20000 in
theorem ggX1_lifeOf_X1_isPlace : GoodIn wsX1_lifeOf wsX1_isPlace := goodIn_r _ [5] (by decide +kernel) (by decide +kernel)
set_option maxRecDepth 20000 in
theorem gX1_lifeOf_X1_isPlace : GoodIn wsX1_lifeOf (va_wsS RX1 44 yX1_isPlace wsX1_isPlace) := goodIn_app (goodIn_of _ (by decide +kernel)) ggX1_lifeOf_X1_isPlace
theorem dX1_lifeOf_0 : decode cX1_lifeOf 0 = .ok (.iload_n 1, 1) := by decide +kernel
theorem dX1_lifeOf_1 : decode cX1_lifeOf 1 = .ok (.invokestatic 44, 3) := by decide +kernel
theorem dX1_lifeOf_4 : decode cX1_lifeOf 4 = .ok (.ifCond .eq 12, 3) := by decide +kernel
theorem dX1_lifeOf_7 : decode cX1_lifeOf 7 = .ok (.aload_n 0, 1) := by decide +kernel
theorem dX1_lifeOf_8 : decode cX1_lifeOf 8 = .ok (.getfield 15, 3) := by decide +kernel
theorem dX1_lifeOf_11 : decode cX1_lifeOf 11 = .ok (.iload_n 1, 1) := by decide +kernel
theorem dX1_lifeOf_12 : decode cX1_lifeOf 12 = .ok (.iaload, 1) := by decide +kernel
theorem dX1_lifeOf_13 : decode cX1_lifeOf 13 = .ok (.goto 4, 3) := by decide +kernel
theorem dX1_lifeOf_16 : decode cX1_lifeOf 16 = .ok (.iconst 0, 1) := by decide +kernel
theorem dX1_lifeOf_17 : decode cX1_lifeOf 17 = .ok (.ireturn, 1) := by decide +kernel
set_option maxRecDepth 20000 in
theorem ggX1_useOf_X1_isPlace : GoodIn wsX1_useOf wsX1_isPlace := goodIn_r _ [5] (by decide +kernel) (by decide +kernel)
set_option maxRecDepth 20000 in
theorem gX1_useOf_X1_isPlace : GoodIn wsX1_useOf (va_wsS RX1 44 yX1_isPlace wsX1_isPlace) := goodIn_app (goodIn_of _ (by decide +kernel)) ggX1_useOf_X1_isPlace
theorem dX1_useOf_0 : decode cX1_useOf 0 = .ok (.iload_n 1, 1) := by decide +kernel
theorem dX1_useOf_1 : decode cX1_useOf 1 = .ok (.invokestatic 44, 3) := by decide +kernel
theorem dX1_useOf_4 : decode cX1_useOf 4 = .ok (.ifCond .eq 12, 3) := by decide +kernel
theorem dX1_useOf_7 : decode cX1_useOf 7 = .ok (.aload_n 0, 1) := by decide +kernel
theorem dX1_useOf_8 : decode cX1_useOf 8 = .ok (.getfield 18, 3) := by decide +kernel
theorem dX1_useOf_11 : decode cX1_useOf 11 = .ok (.iload_n 1, 1) := by decide +kernel
theorem dX1_useOf_12 : decode cX1_useOf 12 = .ok (.iaload, 1) := by decide +kernel
theorem dX1_useOf_13 : decode cX1_useOf 13 = .ok (.goto 4, 3) := by decide +kernel
theorem dX1_useOf_16 : decode cX1_useOf 16 = .ok (.iconst 0, 1) := by decide +kernel
theorem dX1_useOf_17 : decode cX1_useOf 17 = .ok (.ireturn, 1) := by decide +kernel
set_option maxRecDepth 20000 in
theorem ggX1_brightnessOf_X1_isPlace : GoodIn wsX1_brightnessOf wsX1_isPlace := goodIn_r _ [7] (by decide +kernel) (by decide +kernel)
set_option maxRecDepth 20000 in
theorem gX1_brightnessOf_X1_isPlace : GoodIn wsX1_brightnessOf (va_wsS RX1 44 yX1_isPlace wsX1_isPlace) := goodIn_app (goodIn_of _ (by decide +kernel)) ggX1_brightnessOf_X1_isPlace
theorem dX1_brightnessOf_0 : decode cX1_brightnessOf 0 = .ok (.iload_n 1, 1) := by decide +kernel
theorem dX1_brightnessOf_1 : decode cX1_brightnessOf 1 = .ok (.invokestatic 44, 3) := by decide +kernel
theorem dX1_brightnessOf_4 : decode cX1_brightnessOf 4 = .ok (.ifCond .eq 13, 3) := by decide +kernel
theorem dX1_brightnessOf_7 : decode cX1_brightnessOf 7 = .ok (.aload_n 0, 1) := by decide +kernel
theorem dX1_brightnessOf_8 : decode cX1_brightnessOf 8 = .ok (.getfield 15, 3) := by decide +kernel
theorem dX1_brightnessOf_11 : decode cX1_brightnessOf 11 = .ok (.iload_n 1, 1) := by decide +kernel
theorem dX1_brightnessOf_12 : decode cX1_brightnessOf 12 = .ok (.iaload, 1) := by decide +kernel
theorem dX1_brightnessOf_13 : decode cX1_brightnessOf 13 = .ok (.iconst 1, 1) := by decide +kernel
theorem dX1_brightnessOf_14 : decode cX1_brightnessOf 14 = .ok (.if_icmp .ge 5, 3) := by decide +kernel
theorem dX1_brightnessOf_17 : decode cX1_brightnessOf 17 = .ok (.iconst 0, 1) := by decide +kernel
theorem dX1_brightnessOf_18 : decode cX1_brightnessOf 18 = .ok (.ireturn, 1) := by decide +kernel
theorem dX1_brightnessOf_19 : decode cX1_brightnessOf 19 = .ok (.aload_n 0, 1) := by decide +kernel
theorem dX1_brightnessOf_20 : decode cX1_brightnessOf 20 = .ok (.getfield 11, 3) := by decide +kernel
theorem dX1_brightnessOf_23 : decode cX1_brightnessOf 23 = .ok (.iload_n 1, 1) := by decide +kernel
theorem dX1_brightnessOf_24 : decode cX1_brightnessOf 24 = .ok (.iaload, 1) := by decide +kernel
theorem dX1_brightnessOf_25 : decode cX1_brightnessOf 25 = .ok (.istore_n 2, 1) := by decide +kernel
theorem dX1_brightnessOf_26 : decode cX1_brightnessOf 26 = .ok (.iload_n 2, 1) := by decide +kernel
theorem dX1_brightnessOf_27 : decode cX1_brightnessOf 27 = .ok (.iload_n 2, 1) := by decide +kernel
theorem dX1_brightnessOf_28 : decode cX1_brightnessOf 28 = .ok (.aload_n 0, 1) := by decide +kernel
theorem dX1_brightnessOf_29 : decode cX1_brightnessOf 29 = .ok (.getfield 18, 3) := by decide +kernel
theorem dX1_brightnessOf_32 : decode cX1_brightnessOf 32 = .ok (.iload_n 1, 1) := by decide +kernel
theorem dX1_brightnessOf_33 : decode cX1_brightnessOf 33 = .ok (.iaload, 1) := by decide +kernel
theorem dX1_brightnessOf_34 : decode cX1_brightnessOf 34 = .ok (.imul, 1) := by decide +kernel
theorem dX1_brightnessOf_35 : decode cX1_brightnessOf 35 = .ok (.iconst 2, 1) := by decide +kernel
theorem dX1_brightnessOf_36 : decode cX1_brightnessOf 36 = .ok (.aload_n 0, 1) := by decide +kernel
theorem dX1_brightnessOf_37 : decode cX1_brightnessOf 37 = .ok (.getfield 15, 3) := by decide +kernel
theorem dX1_brightnessOf_40 : decode cX1_brightnessOf 40 = .ok (.iload_n 1, 1) := by decide +kernel
theorem dX1_brightnessOf_41 : decode cX1_brightnessOf 41 = .ok (.iaload, 1) := by decide +kernel
theorem dX1_brightnessOf_42 : decode cX1_brightnessOf 42 = .ok (.imul, 1) := by decide +kernel
theorem dX1_brightnessOf_43 : decode cX1_brightnessOf 43 = .ok (.idiv, 1) := by decide +kernel
theorem dX1_brightnessOf_44 : decode cX1_brightnessOf 44 = .ok (.isub, 1) := by decide +kernel
theorem dX1_brightnessOf_45 : decode cX1_brightnessOf 45 = .ok (.ireturn, 1) := by decide +kernel
set_option maxRecDepth 20000 in
theorem ggX1_lamps_X1_hasLamp : GoodIn wsX1_lamps wsX1_hasLamp := goodIn_r _ [5, 6, 7, 8, 4, 9, 10, 11, 12, 13, 14, 15, 16] (by decide +kernel) (by decide +kernel)
set_option maxRecDepth 20000 in
theorem gX1_lamps_X1_hasLamp : GoodIn wsX1_lamps (wsV RX1 48 RX1 yX1_hasLamp wsX1_hasLamp) := goodIn_app (goodIn_of _ (by decide +kernel)) ggX1_lamps_X1_hasLamp
theorem dX1_lamps_0 : decode cX1_lamps 0 = .ok (.iconst 0, 1) := by decide +kernel
theorem dX1_lamps_1 : decode cX1_lamps 1 = .ok (.istore_n 1, 1) := by decide +kernel
theorem dX1_lamps_2 : decode cX1_lamps 2 = .ok (.iconst 0, 1) := by decide +kernel
theorem dX1_lamps_3 : decode cX1_lamps 3 = .ok (.istore_n 2, 1) := by decide +kernel
theorem dX1_lamps_4 : decode cX1_lamps 4 = .ok (.iload_n 2, 1) := by decide +kernel
theorem dX1_lamps_5 : decode cX1_lamps 5 = .ok (.bipush 6, 2) := by decide +kernel
theorem dX1_lamps_7 : decode cX1_lamps 7 = .ok (.if_icmp .ge 20, 3) := by decide +kernel
theorem dX1_lamps_10 : decode cX1_lamps 10 = .ok (.aload_n 0, 1) := by decide +kernel
theorem dX1_lamps_11 : decode cX1_lamps 11 = .ok (.iload_n 2, 1) := by decide +kernel
theorem dX1_lamps_12 : decode cX1_lamps 12 = .ok (.invokevirtual 48, 3) := by decide +kernel
theorem dX1_lamps_15 : decode cX1_lamps 15 = .ok (.ifCond .eq 6, 3) := by decide +kernel
theorem dX1_lamps_18 : decode cX1_lamps 18 = .ok (.iinc 1 1, 3) := by decide +kernel
theorem dX1_lamps_21 : decode cX1_lamps 21 = .ok (.iinc 2 1, 3) := by decide +kernel
theorem dX1_lamps_24 : decode cX1_lamps 24 = .ok (.goto (-20), 3) := by decide +kernel
theorem dX1_lamps_27 : decode cX1_lamps 27 = .ok (.iload_n 1, 1) := by decide +kernel
theorem dX1_lamps_28 : decode cX1_lamps 28 = .ok (.ireturn, 1) := by decide +kernel
set_option maxRecDepth 20000 in
theorem ggX1_goodLamps_X1_canBurn : GoodIn wsX1_goodLamps wsX1_canBurn := goodIn_r _ [5, 6, 7, 8, 9, 4, 10, 11, 12, 13, 14, 15, 16, 17] (by decide +kernel) (by decide +kernel)
set_option maxRecDepth 20000 in
theorem gX1_goodLamps_X1_canBurn : GoodIn wsX1_goodLamps (wsV RX1 51 RX1 yX1_canBurn wsX1_canBurn) := goodIn_app (goodIn_of _ (by decide +kernel)) ggX1_goodLamps_X1_canBurn
theorem dX1_goodLamps_0 : decode cX1_goodLamps 0 = .ok (.iconst 0, 1) := by decide +kernel
theorem dX1_goodLamps_1 : decode cX1_goodLamps 1 = .ok (.istore_n 1, 1) := by decide +kernel
theorem dX1_goodLamps_2 : decode cX1_goodLamps 2 = .ok (.iconst 0, 1) := by decide +kernel
theorem dX1_goodLamps_3 : decode cX1_goodLamps 3 = .ok (.istore_n 2, 1) := by decide +kernel
theorem dX1_goodLamps_4 : decode cX1_goodLamps 4 = .ok (.iload_n 2, 1) := by decide +kernel
theorem dX1_goodLamps_5 : decode cX1_goodLamps 5 = .ok (.bipush 6, 2) := by decide +kernel
theorem dX1_goodLamps_7 : decode cX1_goodLamps 7 = .ok (.if_icmp .ge 20, 3) := by decide +kernel
theorem dX1_goodLamps_10 : decode cX1_goodLamps 10 = .ok (.aload_n 0, 1) := by decide +kernel
theorem dX1_goodLamps_11 : decode cX1_goodLamps 11 = .ok (.iload_n 2, 1) := by decide +kernel
theorem dX1_goodLamps_12 : decode cX1_goodLamps 12 = .ok (.invokevirtual 51, 3) := by decide +kernel
theorem dX1_goodLamps_15 : decode cX1_goodLamps 15 = .ok (.ifCond .eq 6, 3) := by decide +kernel
theorem dX1_goodLamps_18 : decode cX1_goodLamps 18 = .ok (.iinc 1 1, 3) := by decide +kernel
theorem dX1_goodLamps_21 : decode cX1_goodLamps 21 = .ok (.iinc 2 1, 3) := by decide +kernel
theorem dX1_goodLamps_24 : decode cX1_goodLamps 24 = .ok (.goto (-20), 3) := by decide +kernel
theorem dX1_goodLamps_27 : decode cX1_goodLamps 27 = .ok (.iload_n 1, 1) := by decide +kernel
theorem dX1_goodLamps_28 : decode cX1_goodLamps 28 = .ok (.ireturn, 1) := by decide +kernel
set_option maxRecDepth 20000 in
theorem ggX1_lowestEmpty_X1_hasLamp : GoodIn wsX1_lowestEmpty wsX1_hasLamp := goodIn_r _ [5, 6, 7, 8, 4, 9, 10, 11, 12, 13, 14, 15, 16] (by decide +kernel) (by decide +kernel)
set_option maxRecDepth 20000 in
theorem gX1_lowestEmpty_X1_hasLamp : GoodIn wsX1_lowestEmpty (wsV RX1 48 RX1 yX1_hasLamp wsX1_hasLamp) := goodIn_app (goodIn_of _ (by decide +kernel)) ggX1_lowestEmpty_X1_hasLamp
theorem dX1_lowestEmpty_0 : decode cX1_lowestEmpty 0 = .ok (.iconst 0, 1) := by decide +kernel
theorem dX1_lowestEmpty_1 : decode cX1_lowestEmpty 1 = .ok (.istore_n 1, 1) := by decide +kernel
theorem dX1_lowestEmpty_2 : decode cX1_lowestEmpty 2 = .ok (.iload_n 1, 1) := by decide +kernel
theorem dX1_lowestEmpty_3 : decode cX1_lowestEmpty 3 = .ok (.bipush 6, 2) := by decide +kernel
theorem dX1_lowestEmpty_5 : decode cX1_lowestEmpty 5 = .ok (.if_icmp .ge 19, 3) := by decide +kernel
theorem dX1_lowestEmpty_8 : decode cX1_lowestEmpty 8 = .ok (.aload_n 0, 1) := by decide +kernel
theorem dX1_lowestEmpty_9 : decode cX1_lowestEmpty 9 = .ok (.iload_n 1, 1) := by decide +kernel
theorem dX1_lowestEmpty_10 : decode cX1_lowestEmpty 10 = .ok (.invokevirtual 48, 3) := by decide +kernel
theorem dX1_lowestEmpty_13 : decode cX1_lowestEmpty 13 = .ok (.ifCond .ne 5, 3) := by decide +kernel
theorem dX1_lowestEmpty_16 : decode cX1_lowestEmpty 16 = .ok (.iload_n 1, 1) := by decide +kernel
theorem dX1_lowestEmpty_17 : decode cX1_lowestEmpty 17 = .ok (.ireturn, 1) := by decide +kernel
theorem dX1_lowestEmpty_18 : decode cX1_lowestEmpty 18 = .ok (.iinc 1 1, 3) := by decide +kernel
theorem dX1_lowestEmpty_21 : decode cX1_lowestEmpty 21 = .ok (.goto (-19), 3) := by decide +kernel
theorem dX1_lowestEmpty_24 : decode cX1_lowestEmpty 24 = .ok (.iconst (-1), 1) := by decide +kernel
theorem dX1_lowestEmpty_25 : decode cX1_lowestEmpty 25 = .ok (.ireturn, 1) := by decide +kernel
set_option maxRecDepth 20000 in
theorem ggX1_beginsChange_X1_canBurn : GoodIn wsX1_beginsChange wsX1_canBurn := goodIn_r _ [8, 9, 10, 11, 12, 7, 13, 14, 15, 16, 17, 18, 19, 20] (by decide +kernel) (by decide +kernel)
set_option maxRecDepth 20000 in
theorem gX1_beginsChange_X1_canBurn : GoodIn wsX1_beginsChange (wsV RX1 51 RX1 yX1_canBurn wsX1_canBurn) := goodIn_app (goodIn_of _ (by decide +kernel)) ggX1_beginsChange_X1_canBurn
theorem dX1_beginsChange_0 : decode cX1_beginsChange 0 = .ok (.aload_n 0, 1) := by decide +kernel
theorem dX1_beginsChange_1 : decode cX1_beginsChange 1 = .ok (.getfield 37, 3) := by decide +kernel
theorem dX1_beginsChange_4 : decode cX1_beginsChange 4 = .ok (.ifCond .gt 14, 3) := by decide +kernel
theorem dX1_beginsChange_7 : decode cX1_beginsChange 7 = .ok (.aload_n 0, 1) := by decide +kernel
theorem dX1_beginsChange_8 : decode cX1_beginsChange 8 = .ok (.aload_n 0, 1) := by decide +kernel
theorem dX1_beginsChange_9 : decode cX1_beginsChange 9 = .ok (.getfield 34, 3) := by decide +kernel
theorem dX1_beginsChange_12 : decode cX1_beginsChange 12 = .ok (.invokevirtual 51, 3) := by decide +kernel
theorem dX1_beginsChange_15 : decode cX1_beginsChange 15 = .ok (.ifCond .eq 5, 3) := by decide +kernel
theorem dX1_beginsChange_18 : decode cX1_beginsChange 18 = .ok (.iconst 0, 1) := by decide +kernel
theorem dX1_beginsChange_19 : decode cX1_beginsChange 19 = .ok (.ireturn, 1) := by decide +kernel
theorem dX1_beginsChange_20 : decode cX1_beginsChange 20 = .ok (.iconst 1, 1) := by decide +kernel
theorem dX1_beginsChange_21 : decode cX1_beginsChange 21 = .ok (.istore_n 1, 1) := by decide +kernel
theorem dX1_beginsChange_22 : decode cX1_beginsChange 22 = .ok (.iload_n 1, 1) := by decide +kernel
theorem dX1_beginsChange_23 : decode cX1_beginsChange 23 = .ok (.bipush 6, 2) := by decide +kernel
theorem dX1_beginsChange_25 : decode cX1_beginsChange 25 = .ok (.if_icmp .ge 42, 3) := by decide +kernel
theorem dX1_beginsChange_28 : decode cX1_beginsChange 28 = .ok (.aload_n 0, 1) := by decide +kernel
theorem dX1_beginsChange_29 : decode cX1_beginsChange 29 = .ok (.getfield 34, 3) := by decide +kernel
theorem dX1_beginsChange_32 : decode cX1_beginsChange 32 = .ok (.iload_n 1, 1) := by decide +kernel
theorem dX1_beginsChange_33 : decode cX1_beginsChange 33 = .ok (.iadd, 1) := by decide +kernel
theorem dX1_beginsChange_34 : decode cX1_beginsChange 34 = .ok (.bipush 6, 2) := by decide +kernel
theorem dX1_beginsChange_36 : decode cX1_beginsChange 36 = .ok (.irem, 1) := by decide +kernel
theorem dX1_beginsChange_37 : decode cX1_beginsChange 37 = .ok (.istore_n 2, 1) := by decide +kernel
theorem dX1_beginsChange_38 : decode cX1_beginsChange 38 = .ok (.aload_n 0, 1) := by decide +kernel
theorem dX1_beginsChange_39 : decode cX1_beginsChange 39 = .ok (.iload_n 2, 1) := by decide +kernel
theorem dX1_beginsChange_40 : decode cX1_beginsChange 40 = .ok (.invokevirtual 51, 3) := by decide +kernel
theorem dX1_beginsChange_43 : decode cX1_beginsChange 43 = .ok (.ifCond .eq 18, 3) := by decide +kernel
theorem dX1_beginsChange_46 : decode cX1_beginsChange 46 = .ok (.aload_n 0, 1) := by decide +kernel
theorem dX1_beginsChange_47 : decode cX1_beginsChange 47 = .ok (.iload_n 2, 1) := by decide +kernel
theorem dX1_beginsChange_48 : decode cX1_beginsChange 48 = .ok (.putfield 34, 3) := by decide +kernel
theorem dX1_beginsChange_51 : decode cX1_beginsChange 51 = .ok (.aload_n 0, 1) := by decide +kernel
theorem dX1_beginsChange_52 : decode cX1_beginsChange 52 = .ok (.aload_n 0, 1) := by decide +kernel
theorem dX1_beginsChange_53 : decode cX1_beginsChange 53 = .ok (.getfield 21, 3) := by decide +kernel
theorem dX1_beginsChange_56 : decode cX1_beginsChange 56 = .ok (.putfield 37, 3) := by decide +kernel
theorem dX1_beginsChange_59 : decode cX1_beginsChange 59 = .ok (.iconst 1, 1) := by decide +kernel
theorem dX1_beginsChange_60 : decode cX1_beginsChange 60 = .ok (.ireturn, 1) := by decide +kernel
theorem dX1_beginsChange_61 : decode cX1_beginsChange 61 = .ok (.iinc 1 1, 3) := by decide +kernel
theorem dX1_beginsChange_64 : decode cX1_beginsChange 64 = .ok (.goto (-42), 3) := by decide +kernel
theorem dX1_beginsChange_67 : decode cX1_beginsChange 67 = .ok (.iconst 0, 1) := by decide +kernel
theorem dX1_beginsChange_68 : decode cX1_beginsChange 68 = .ok (.ireturn, 1) := by decide +kernel
set_option maxRecDepth 20000 in
theorem ggX1_spend_X1_isPlace : GoodIn wsX1_spend wsX1_isPlace := goodIn_r _ [8] (by decide +kernel) (by decide +kernel)
set_option maxRecDepth 20000 in
theorem gX1_spend_X1_isPlace : GoodIn wsX1_spend (va_wsS RX1 44 yX1_isPlace wsX1_isPlace) := goodIn_app (goodIn_of _ (by decide +kernel)) ggX1_spend_X1_isPlace
set_option maxRecDepth 20000 in
theorem ggX1_spend_X1_canBurn : GoodIn wsX1_spend wsX1_canBurn := goodIn_r _ [12, 3, 13, 5, 6, 7, 8, 14, 15, 16, 17, 18, 19, 20] (by decide +kernel) (by decide +kernel)
set_option maxRecDepth 20000 in
theorem gX1_spend_X1_canBurn : GoodIn wsX1_spend (wsV RX1 51 RX1 yX1_canBurn wsX1_canBurn) := goodIn_app (goodIn_of _ (by decide +kernel)) ggX1_spend_X1_canBurn
theorem dX1_spend_0 : decode cX1_spend 0 = .ok (.aload_n 0, 1) := by decide +kernel
theorem dX1_spend_1 : decode cX1_spend 1 = .ok (.getfield 37, 3) := by decide +kernel
theorem dX1_spend_4 : decode cX1_spend 4 = .ok (.ifCond .le 15, 3) := by decide +kernel
theorem dX1_spend_7 : decode cX1_spend 7 = .ok (.aload_n 0, 1) := by decide +kernel
theorem dX1_spend_8 : decode cX1_spend 8 = .ok (.dup, 1) := by decide +kernel
theorem dX1_spend_9 : decode cX1_spend 9 = .ok (.getfield 37, 3) := by decide +kernel
theorem dX1_spend_12 : decode cX1_spend 12 = .ok (.iconst 1, 1) := by decide +kernel
theorem dX1_spend_13 : decode cX1_spend 13 = .ok (.isub, 1) := by decide +kernel
theorem dX1_spend_14 : decode cX1_spend 14 = .ok (.putfield 37, 3) := by decide +kernel
theorem dX1_spend_17 : decode cX1_spend 17 = .ok (.iconst 2, 1) := by decide +kernel
theorem dX1_spend_18 : decode cX1_spend 18 = .ok (.ireturn, 1) := by decide +kernel
theorem dX1_spend_19 : decode cX1_spend 19 = .ok (.aload_n 0, 1) := by decide +kernel
theorem dX1_spend_20 : decode cX1_spend 20 = .ok (.getfield 34, 3) := by decide +kernel
theorem dX1_spend_23 : decode cX1_spend 23 = .ok (.invokestatic 44, 3) := by decide +kernel
theorem dX1_spend_26 : decode cX1_spend 26 = .ok (.ifCond .eq 14, 3) := by decide +kernel
theorem dX1_spend_29 : decode cX1_spend 29 = .ok (.aload_n 0, 1) := by decide +kernel
theorem dX1_spend_30 : decode cX1_spend 30 = .ok (.aload_n 0, 1) := by decide +kernel
theorem dX1_spend_31 : decode cX1_spend 31 = .ok (.getfield 34, 3) := by decide +kernel
theorem dX1_spend_34 : decode cX1_spend 34 = .ok (.invokevirtual 51, 3) := by decide +kernel
theorem dX1_spend_37 : decode cX1_spend 37 = .ok (.ifCond .ne 5, 3) := by decide +kernel
theorem dX1_spend_40 : decode cX1_spend 40 = .ok (.iconst 3, 1) := by decide +kernel
theorem dX1_spend_41 : decode cX1_spend 41 = .ok (.ireturn, 1) := by decide +kernel
theorem dX1_spend_42 : decode cX1_spend 42 = .ok (.iload_n 2, 1) := by decide +kernel
theorem dX1_spend_43 : decode cX1_spend 43 = .ok (.ifCond .eq 18, 3) := by decide +kernel
theorem dX1_spend_46 : decode cX1_spend 46 = .ok (.aload_n 0, 1) := by decide +kernel
theorem dX1_spend_47 : decode cX1_spend 47 = .ok (.getfield 18, 3) := by decide +kernel
theorem dX1_spend_50 : decode cX1_spend 50 = .ok (.aload_n 0, 1) := by decide +kernel
theorem dX1_spend_51 : decode cX1_spend 51 = .ok (.getfield 34, 3) := by decide +kernel
theorem dX1_spend_54 : decode cX1_spend 54 = .ok (.dup2, 1) := by decide +kernel
theorem dX1_spend_55 : decode cX1_spend 55 = .ok (.iaload, 1) := by decide +kernel
theorem dX1_spend_56 : decode cX1_spend 56 = .ok (.iconst 1, 1) := by decide +kernel
theorem dX1_spend_57 : decode cX1_spend 57 = .ok (.iadd, 1) := by decide +kernel
theorem dX1_spend_58 : decode cX1_spend 58 = .ok (.iastore, 1) := by decide +kernel
theorem dX1_spend_59 : decode cX1_spend 59 = .ok (.iconst 0, 1) := by decide +kernel
theorem dX1_spend_60 : decode cX1_spend 60 = .ok (.ireturn, 1) := by decide +kernel
theorem dX1_spend_61 : decode cX1_spend 61 = .ok (.aload_n 0, 1) := by decide +kernel
theorem dX1_spend_62 : decode cX1_spend 62 = .ok (.getfield 31, 3) := by decide +kernel
theorem dX1_spend_65 : decode cX1_spend 65 = .ok (.iconst 1, 1) := by decide +kernel
theorem dX1_spend_66 : decode cX1_spend 66 = .ok (.if_icmp .ne 22, 3) := by decide +kernel
theorem dX1_spend_69 : decode cX1_spend 69 = .ok (.iload_n 1, 1) := by decide +kernel
theorem dX1_spend_70 : decode cX1_spend 70 = .ok (.iconst 4, 1) := by decide +kernel
theorem dX1_spend_71 : decode cX1_spend 71 = .ok (.irem, 1) := by decide +kernel
theorem dX1_spend_72 : decode cX1_spend 72 = .ok (.ifCond .ne 16, 3) := by decide +kernel
theorem dX1_spend_75 : decode cX1_spend 75 = .ok (.aload_n 0, 1) := by decide +kernel
theorem dX1_spend_76 : decode cX1_spend 76 = .ok (.getfield 18, 3) := by decide +kernel
theorem dX1_spend_79 : decode cX1_spend 79 = .ok (.aload_n 0, 1) := by decide +kernel
theorem dX1_spend_80 : decode cX1_spend 80 = .ok (.getfield 34, 3) := by decide +kernel
theorem dX1_spend_83 : decode cX1_spend 83 = .ok (.dup2, 1) := by decide +kernel
theorem dX1_spend_84 : decode cX1_spend 84 = .ok (.iaload, 1) := by decide +kernel
theorem dX1_spend_85 : decode cX1_spend 85 = .ok (.iconst 1, 1) := by decide +kernel
theorem dX1_spend_86 : decode cX1_spend 86 = .ok (.iadd, 1) := by decide +kernel
theorem dX1_spend_87 : decode cX1_spend 87 = .ok (.iastore, 1) := by decide +kernel
theorem dX1_spend_88 : decode cX1_spend 88 = .ok (.iconst 1, 1) := by decide +kernel
theorem dX1_spend_89 : decode cX1_spend 89 = .ok (.ireturn, 1) := by decide +kernel
set_option maxRecDepth 20000 in
theorem ggX1_differences_X1_isLike : GoodIn wsX1_differences wsX1_isLike := goodIn_r _ [5, 6, 7, 8, 9, 4, 10, 11, 12, 13, 14, 15, 16, 17, 18, 19, 20, 21, 22, 23, 24, 25, 26, 27, 28, 29, 30, 31, 32, 33, 34, 35] (by decide +kernel) (by decide +kernel)
set_option maxRecDepth 20000 in
theorem gX1_differences_X1_isLike : GoodIn wsX1_differences (wsV RX1 56 RX1 yX1_isLike wsX1_isLike) := goodIn_app (goodIn_of _ (by decide +kernel)) ggX1_differences_X1_isLike
theorem dX1_differences_0 : decode cX1_differences 0 = .ok (.iconst 0, 1) := by decide +kernel
theorem dX1_differences_1 : decode cX1_differences 1 = .ok (.istore_n 2, 1) := by decide +kernel
theorem dX1_differences_2 : decode cX1_differences 2 = .ok (.iconst 0, 1) := by decide +kernel
theorem dX1_differences_3 : decode cX1_differences 3 = .ok (.istore_n 3, 1) := by decide +kernel
theorem dX1_differences_4 : decode cX1_differences 4 = .ok (.iload_n 3, 1) := by decide +kernel
theorem dX1_differences_5 : decode cX1_differences 5 = .ok (.bipush 6, 2) := by decide +kernel
theorem dX1_differences_7 : decode cX1_differences 7 = .ok (.if_icmp .ge 21, 3) := by decide +kernel
theorem dX1_differences_10 : decode cX1_differences 10 = .ok (.aload_n 0, 1) := by decide +kernel
theorem dX1_differences_11 : decode cX1_differences 11 = .ok (.aload_n 1, 1) := by decide +kernel
theorem dX1_differences_12 : decode cX1_differences 12 = .ok (.iload_n 3, 1) := by decide +kernel
theorem dX1_differences_13 : decode cX1_differences 13 = .ok (.invokevirtual 56, 3) := by decide +kernel
theorem dX1_differences_16 : decode cX1_differences 16 = .ok (.ifCond .ne 6, 3) := by decide +kernel
theorem dX1_differences_19 : decode cX1_differences 19 = .ok (.iinc 2 1, 3) := by decide +kernel
theorem dX1_differences_22 : decode cX1_differences 22 = .ok (.iinc 3 1, 3) := by decide +kernel
theorem dX1_differences_25 : decode cX1_differences 25 = .ok (.goto (-21), 3) := by decide +kernel
theorem dX1_differences_28 : decode cX1_differences 28 = .ok (.iload_n 2, 1) := by decide +kernel
theorem dX1_differences_29 : decode cX1_differences 29 = .ok (.ireturn, 1) := by decide +kernel
set_option maxRecDepth 20000 in
theorem ggX1_isLike_X1_hasLamp : GoodIn wsX1_isLike wsX1_hasLamp := goodIn_r _ [6, 7, 8, 9, 5, 10, 25, 26, 27, 28, 29, 30, 31] (by decide +kernel) (by decide +kernel)
set_option maxRecDepth 20000 in
theorem gX1_isLike_X1_hasLamp : GoodIn wsX1_isLike (wsV RX1 48 RX1 yX1_hasLamp wsX1_hasLamp) := goodIn_app (goodIn_of _ (by decide +kernel)) ggX1_isLike_X1_hasLamp
set_option maxRecDepth 20000 in
theorem ggX1_isLike_X1_intensityOf : GoodIn wsX1_isLike wsX1_intensityOf := goodIn_r _ [14, 15, 8, 9, 5, 10, 25, 26, 27, 28, 29, 30, 31] (by decide +kernel) (by decide +kernel)
set_option maxRecDepth 20000 in
theorem gX1_isLike_X1_intensityOf : GoodIn wsX1_isLike (wsV RX1 60 RX1 yX1_intensityOf wsX1_intensityOf) := goodIn_app (goodIn_of _ (by decide +kernel)) ggX1_isLike_X1_intensityOf
set_option maxRecDepth 20000 in
theorem ggX1_isLike_X1_lifeOf : GoodIn wsX1_isLike wsX1_lifeOf := goodIn_r _ [19, 7, 8, 9, 5, 10, 25, 26, 27, 28, 29, 30, 31] (by decide +kernel) (by decide +kernel)
set_option maxRecDepth 20000 in
theorem gX1_isLike_X1_lifeOf : GoodIn wsX1_isLike (wsV RX1 64 RX1 yX1_lifeOf wsX1_lifeOf) := goodIn_app (goodIn_of _ (by decide +kernel)) ggX1_isLike_X1_lifeOf
set_option maxRecDepth 20000 in
theorem ggX1_isLike_X1_useOf : GoodIn wsX1_isLike wsX1_useOf := goodIn_r _ [23, 24, 8, 9, 5, 10, 25, 26, 27, 28, 29, 30, 31] (by decide +kernel) (by decide +kernel)
set_option maxRecDepth 20000 in
theorem gX1_isLike_X1_useOf : GoodIn wsX1_isLike (wsV RX1 67 RX1 yX1_useOf wsX1_useOf) := goodIn_app (goodIn_of _ (by decide +kernel)) ggX1_isLike_X1_useOf
theorem dX1_isLike_0 : decode cX1_isLike 0 = .ok (.aload_n 0, 1) := by decide +kernel
theorem dX1_isLike_1 : decode cX1_isLike 1 = .ok (.iload_n 2, 1) := by decide +kernel
theorem dX1_isLike_2 : decode cX1_isLike 2 = .ok (.invokevirtual 48, 3) := by decide +kernel
theorem dX1_isLike_5 : decode cX1_isLike 5 = .ok (.ifCond .eq 11, 3) := by decide +kernel
theorem dX1_isLike_8 : decode cX1_isLike 8 = .ok (.aload_n 1, 1) := by decide +kernel
theorem dX1_isLike_9 : decode cX1_isLike 9 = .ok (.iload_n 2, 1) := by decide +kernel
theorem dX1_isLike_10 : decode cX1_isLike 10 = .ok (.invokevirtual 48, 3) := by decide +kernel
theorem dX1_isLike_13 : decode cX1_isLike 13 = .ok (.ifCond .ne 22, 3) := by decide +kernel
theorem dX1_isLike_16 : decode cX1_isLike 16 = .ok (.aload_n 0, 1) := by decide +kernel
theorem dX1_isLike_17 : decode cX1_isLike 17 = .ok (.iload_n 2, 1) := by decide +kernel
theorem dX1_isLike_18 : decode cX1_isLike 18 = .ok (.invokevirtual 48, 3) := by decide +kernel
theorem dX1_isLike_21 : decode cX1_isLike 21 = .ok (.aload_n 1, 1) := by decide +kernel
theorem dX1_isLike_22 : decode cX1_isLike 22 = .ok (.iload_n 2, 1) := by decide +kernel
theorem dX1_isLike_23 : decode cX1_isLike 23 = .ok (.invokevirtual 48, 3) := by decide +kernel
theorem dX1_isLike_26 : decode cX1_isLike 26 = .ok (.if_icmp .ne 7, 3) := by decide +kernel
theorem dX1_isLike_29 : decode cX1_isLike 29 = .ok (.iconst 1, 1) := by decide +kernel
theorem dX1_isLike_30 : decode cX1_isLike 30 = .ok (.goto 4, 3) := by decide +kernel
theorem dX1_isLike_33 : decode cX1_isLike 33 = .ok (.iconst 0, 1) := by decide +kernel
theorem dX1_isLike_34 : decode cX1_isLike 34 = .ok (.ireturn, 1) := by decide +kernel
theorem dX1_isLike_35 : decode cX1_isLike 35 = .ok (.aload_n 0, 1) := by decide +kernel
theorem dX1_isLike_36 : decode cX1_isLike 36 = .ok (.getfield 31, 3) := by decide +kernel
theorem dX1_isLike_39 : decode cX1_isLike 39 = .ok (.aload_n 1, 1) := by decide +kernel
theorem dX1_isLike_40 : decode cX1_isLike 40 = .ok (.getfield 31, 3) := by decide +kernel
theorem dX1_isLike_43 : decode cX1_isLike 43 = .ok (.if_icmp .ne 46, 3) := by decide +kernel
theorem dX1_isLike_46 : decode cX1_isLike 46 = .ok (.aload_n 0, 1) := by decide +kernel
theorem dX1_isLike_47 : decode cX1_isLike 47 = .ok (.iload_n 2, 1) := by decide +kernel
theorem dX1_isLike_48 : decode cX1_isLike 48 = .ok (.invokevirtual 60, 3) := by decide +kernel
theorem dX1_isLike_51 : decode cX1_isLike 51 = .ok (.aload_n 1, 1) := by decide +kernel
theorem dX1_isLike_52 : decode cX1_isLike 52 = .ok (.iload_n 2, 1) := by decide +kernel
theorem dX1_isLike_53 : decode cX1_isLike 53 = .ok (.invokevirtual 60, 3) := by decide +kernel
theorem dX1_isLike_56 : decode cX1_isLike 56 = .ok (.if_icmp .ne 33, 3) := by decide +kernel
theorem dX1_isLike_59 : decode cX1_isLike 59 = .ok (.aload_n 0, 1) := by decide +kernel
theorem dX1_isLike_60 : decode cX1_isLike 60 = .ok (.iload_n 2, 1) := by decide +kernel
theorem dX1_isLike_61 : decode cX1_isLike 61 = .ok (.invokevirtual 64, 3) := by decide +kernel
theorem dX1_isLike_64 : decode cX1_isLike 64 = .ok (.aload_n 1, 1) := by decide +kernel
theorem dX1_isLike_65 : decode cX1_isLike 65 = .ok (.iload_n 2, 1) := by decide +kernel
theorem dX1_isLike_66 : decode cX1_isLike 66 = .ok (.invokevirtual 64, 3) := by decide +kernel
theorem dX1_isLike_69 : decode cX1_isLike 69 = .ok (.if_icmp .ne 20, 3) := by decide +kernel
theorem dX1_isLike_72 : decode cX1_isLike 72 = .ok (.aload_n 0, 1) := by decide +kernel
theorem dX1_isLike_73 : decode cX1_isLike 73 = .ok (.iload_n 2, 1) := by decide +kernel
theorem dX1_isLike_74 : decode cX1_isLike 74 = .ok (.invokevirtual 67, 3) := by decide +kernel
theorem dX1_isLike_77 : decode cX1_isLike 77 = .ok (.aload_n 1, 1) := by decide +kernel
theorem dX1_isLike_78 : decode cX1_isLike 78 = .ok (.iload_n 2, 1) := by decide +kernel
theorem dX1_isLike_79 : decode cX1_isLike 79 = .ok (.invokevirtual 67, 3) := by decide +kernel
theorem dX1_isLike_82 : decode cX1_isLike 82 = .ok (.if_icmp .ne 7, 3) := by decide +kernel
theorem dX1_isLike_85 : decode cX1_isLike 85 = .ok (.iconst 1, 1) := by decide +kernel
theorem dX1_isLike_86 : decode cX1_isLike 86 = .ok (.goto 4, 3) := by decide +kernel
theorem dX1_isLike_89 : decode cX1_isLike 89 = .ok (.iconst 0, 1) := by decide +kernel
theorem dX1_isLike_90 : decode cX1_isLike 90 = .ok (.ireturn, 1) := by decide +kernel
set_option maxRecDepth 20000 in
theorem ggX1_canBurn_X1_isPlace : GoodIn wsX1_canBurn wsX1_isPlace := goodIn_r _ [6] (by decide +kernel) (by decide +kernel)
set_option maxRecDepth 20000 in
theorem gX1_canBurn_X1_isPlace : GoodIn wsX1_canBurn (va_wsS RX1 44 yX1_isPlace wsX1_isPlace) := goodIn_app (goodIn_of _ (by decide +kernel)) ggX1_canBurn_X1_isPlace
theorem dX1_canBurn_0 : decode cX1_canBurn 0 = .ok (.iload_n 1, 1) := by decide +kernel
theorem dX1_canBurn_1 : decode cX1_canBurn 1 = .ok (.invokestatic 44, 3) := by decide +kernel
theorem dX1_canBurn_4 : decode cX1_canBurn 4 = .ok (.ifCond .eq 22, 3) := by decide +kernel
theorem dX1_canBurn_7 : decode cX1_canBurn 7 = .ok (.aload_n 0, 1) := by decide +kernel
theorem dX1_canBurn_8 : decode cX1_canBurn 8 = .ok (.getfield 18, 3) := by decide +kernel
theorem dX1_canBurn_11 : decode cX1_canBurn 11 = .ok (.iload_n 1, 1) := by decide +kernel
theorem dX1_canBurn_12 : decode cX1_canBurn 12 = .ok (.iaload, 1) := by decide +kernel
theorem dX1_canBurn_13 : decode cX1_canBurn 13 = .ok (.aload_n 0, 1) := by decide +kernel
theorem dX1_canBurn_14 : decode cX1_canBurn 14 = .ok (.getfield 15, 3) := by decide +kernel
theorem dX1_canBurn_17 : decode cX1_canBurn 17 = .ok (.iload_n 1, 1) := by decide +kernel
theorem dX1_canBurn_18 : decode cX1_canBurn 18 = .ok (.iaload, 1) := by decide +kernel
theorem dX1_canBurn_19 : decode cX1_canBurn 19 = .ok (.if_icmp .ge 7, 3) := by decide +kernel
theorem dX1_canBurn_22 : decode cX1_canBurn 22 = .ok (.iconst 1, 1) := by decide +kernel
theorem dX1_canBurn_23 : decode cX1_canBurn 23 = .ok (.goto 4, 3) := by decide +kernel
theorem dX1_canBurn_26 : decode cX1_canBurn 26 = .ok (.iconst 0, 1) := by decide +kernel
theorem dX1_canBurn_27 : decode cX1_canBurn 27 = .ok (.ireturn, 1) := by decide +kernel
theorem dX1_isPlace_0 : decode cX1_isPlace 0 = .ok (.iload_n 0, 1) := by decide +kernel
theorem dX1_isPlace_1 : decode cX1_isPlace 1 = .ok (.ifCond .lt 13, 3) := by decide +kernel
theorem dX1_isPlace_4 : decode cX1_isPlace 4 = .ok (.iload_n 0, 1) := by decide +kernel
theorem dX1_isPlace_5 : decode cX1_isPlace 5 = .ok (.bipush 6, 2) := by decide +kernel
theorem dX1_isPlace_7 : decode cX1_isPlace 7 = .ok (.if_icmp .ge 7, 3) := by decide +kernel
theorem dX1_isPlace_10 : decode cX1_isPlace 10 = .ok (.iconst 1, 1) := by decide +kernel
theorem dX1_isPlace_11 : decode cX1_isPlace 11 = .ok (.goto 4, 3) := by decide +kernel
theorem dX1_isPlace_14 : decode cX1_isPlace 14 = .ok (.iconst 0, 1) := by decide +kernel
theorem dX1_isPlace_15 : decode cX1_isPlace 15 = .ok (.ireturn, 1) := by decide +kernel
theorem dX2_init_0 : decode cX2_init 0 = .ok (.aload_n 0, 1) := by decide +kernel
theorem dX2_init_1 : decode cX2_init 1 = .ok (.invokespecial 3, 3) := by decide +kernel
theorem dX2_init_4 : decode cX2_init 4 = .ok (.aload_n 0, 1) := by decide +kernel
theorem dX2_init_5 : decode cX2_init 5 = .ok (.bipush 64, 2) := by decide +kernel
theorem dX2_init_7 : decode cX2_init 7 = .ok (.newarray .int, 2) := by decide +kernel
theorem dX2_init_9 : decode cX2_init 9 = .ok (.putfield 11, 3) := by decide +kernel
theorem dX2_init_12 : decode cX2_init 12 = .ok (.iconst 0, 1) := by decide +kernel
theorem dX2_init_13 : decode cX2_init 13 = .ok (.istore_n 1, 1) := by decide +kernel
theorem dX2_init_14 : decode cX2_init 14 = .ok (.iload_n 1, 1) := by decide +kernel
theorem dX2_init_15 : decode cX2_init 15 = .ok (.aload_n 0, 1) := by decide +kernel
theorem dX2_init_16 : decode cX2_init 16 = .ok (.getfield 11, 3) := by decide +kernel
theorem dX2_init_19 : decode cX2_init 19 = .ok (.arraylength, 1) := by decide +kernel
theorem dX2_init_20 : decode cX2_init 20 = .ok (.if_icmp .ge 16, 3) := by decide +kernel
theorem dX2_init_23 : decode cX2_init 23 = .ok (.aload_n 0, 1) := by decide +kernel
theorem dX2_init_24 : decode cX2_init 24 = .ok (.getfield 11, 3) := by decide +kernel
theorem dX2_init_27 : decode cX2_init 27 = .ok (.iload_n 1, 1) := by decide +kernel
theorem dX2_init_28 : decode cX2_init 28 = .ok (.iconst 1, 1) := by decide +kernel
theorem dX2_init_29 : decode cX2_init 29 = .ok (.iastore, 1) := by decide +kernel
theorem dX2_init_30 : decode cX2_init 30 = .ok (.iinc 1 1, 3) := by decide +kernel
theorem dX2_init_33 : decode cX2_init 33 = .ok (.goto (-19), 3) := by decide +kernel
theorem dX2_init_36 : decode cX2_init 36 = .ok (.return_, 1) := by decide +kernel
theorem dX2_become_0 : decode cX2_become 0 = .ok (.aload_n 1, 1) := by decide +kernel
theorem dX2_become_1 : decode cX2_become 1 = .ok (.getfield 11, 3) := by decide +kernel
theorem dX2_become_4 : decode cX2_become 4 = .ok (.iconst 0, 1) := by decide +kernel
theorem dX2_become_5 : decode cX2_become 5 = .ok (.aload_n 0, 1) := by decide +kernel
theorem dX2_become_6 : decode cX2_become 6 = .ok (.getfield 11, 3) := by decide +kernel
theorem dX2_become_9 : decode cX2_become 9 = .ok (.iconst 0, 1) := by decide +kernel
theorem dX2_become_10 : decode cX2_become 10 = .ok (.aload_n 0, 1) := by decide +kernel
theorem dX2_become_11 : decode cX2_become 11 = .ok (.getfield 11, 3) := by decide +kernel
theorem dX2_become_14 : decode cX2_become 14 = .ok (.arraylength, 1) := by decide +kernel
theorem dX2_become_15 : decode cX2_become 15 = .ok (.invokestatic 17, 3) := by decide +kernel
theorem dX2_become_18 : decode cX2_become 18 = .ok (.return_, 1) := by decide +kernel
theorem dX2_colorAt_0 : decode cX2_colorAt 0 = .ok (.iload_n 1, 1) := by decide +kernel
theorem dX2_colorAt_1 : decode cX2_colorAt 1 = .ok (.bipush 63, 2) := by decide +kernel
theorem dX2_colorAt_3 : decode cX2_colorAt 3 = .ok (.iand, 1) := by decide +kernel
theorem dX2_colorAt_4 : decode cX2_colorAt 4 = .ok (.istore_n 2, 1) := by decide +kernel
theorem dX2_colorAt_5 : decode cX2_colorAt 5 = .ok (.iload_n 2, 1) := by decide +kernel
theorem dX2_colorAt_6 : decode cX2_colorAt 6 = .ok (.aload_n 0, 1) := by decide +kernel
theorem dX2_colorAt_7 : decode cX2_colorAt 7 = .ok (.getfield 11, 3) := by decide +kernel
theorem dX2_colorAt_10 : decode cX2_colorAt 10 = .ok (.arraylength, 1) := by decide +kernel
theorem dX2_colorAt_11 : decode cX2_colorAt 11 = .ok (.if_icmp .ge 12, 3) := by decide +kernel
theorem dX2_colorAt_14 : decode cX2_colorAt 14 = .ok (.aload_n 0, 1) := by decide +kernel
theorem dX2_colorAt_15 : decode cX2_colorAt 15 = .ok (.getfield 11, 3) := by decide +kernel
theorem dX2_colorAt_18 : decode cX2_colorAt 18 = .ok (.iload_n 2, 1) := by decide +kernel
theorem dX2_colorAt_19 : decode cX2_colorAt 19 = .ok (.iaload, 1) := by decide +kernel
theorem dX2_colorAt_20 : decode cX2_colorAt 20 = .ok (.goto 4, 3) := by decide +kernel
theorem dX2_colorAt_23 : decode cX2_colorAt 23 = .ok (.iconst 0, 1) := by decide +kernel
theorem dX2_colorAt_24 : decode cX2_colorAt 24 = .ok (.ireturn, 1) := by decide +kernel
theorem dX2_give_0 : decode cX2_give 0 = .ok (.iload_n 3, 1) := by decide +kernel
theorem dX2_give_1 : decode cX2_give 1 = .ok (.iload_n 2, 1) := by decide +kernel
theorem dX2_give_2 : decode cX2_give 2 = .ok (.isub, 1) := by decide +kernel
theorem dX2_give_3 : decode cX2_give 3 = .ok (.bipush 63, 2) := by decide +kernel
theorem dX2_give_5 : decode cX2_give 5 = .ok (.iand, 1) := by decide +kernel
theorem dX2_give_6 : decode cX2_give 6 = .ok (.istore 4, 2) := by decide +kernel
theorem dX2_give_8 : decode cX2_give 8 = .ok (.iconst 0, 1) := by decide +kernel
theorem dX2_give_9 : decode cX2_give 9 = .ok (.istore 5, 2) := by decide +kernel
theorem dX2_give_11 : decode cX2_give 11 = .ok (.iconst 0, 1) := by decide +kernel
theorem dX2_give_12 : decode cX2_give 12 = .ok (.istore 6, 2) := by decide +kernel
theorem dX2_give_14 : decode cX2_give 14 = .ok (.iload 6, 2) := by decide +kernel
theorem dX2_give_16 : decode cX2_give 16 = .ok (.iload 4, 2) := by decide +kernel
theorem dX2_give_18 : decode cX2_give 18 = .ok (.if_icmp .gt 50, 3) := by decide +kernel
theorem dX2_give_21 : decode cX2_give 21 = .ok (.iload_n 2, 1) := by decide +kernel
theorem dX2_give_22 : decode cX2_give 22 = .ok (.iload 6, 2) := by decide +kernel
theorem dX2_give_24 : decode cX2_give 24 = .ok (.iadd, 1) := by decide +kernel
theorem dX2_give_25 : decode cX2_give 25 = .ok (.bipush 63, 2) := by decide +kernel
theorem dX2_give_27 : decode cX2_give 27 = .ok (.iand, 1) := by decide +kernel
theorem dX2_give_28 : decode cX2_give 28 = .ok (.istore 7, 2) := by decide +kernel
theorem dX2_give_30 : decode cX2_give 30 = .ok (.iload 7, 2) := by decide +kernel
theorem dX2_give_32 : decode cX2_give 32 = .ok (.aload_n 0, 1) := by decide +kernel
theorem dX2_give_33 : decode cX2_give 33 = .ok (.getfield 11, 3) := by decide +kernel
theorem dX2_give_36 : decode cX2_give 36 = .ok (.arraylength, 1) := by decide +kernel
theorem dX2_give_37 : decode cX2_give 37 = .ok (.if_icmp .ge 25, 3) := by decide +kernel
theorem dX2_give_40 : decode cX2_give 40 = .ok (.aload_n 0, 1) := by decide +kernel
theorem dX2_give_41 : decode cX2_give 41 = .ok (.getfield 11, 3) := by decide +kernel
theorem dX2_give_44 : decode cX2_give 44 = .ok (.iload 7, 2) := by decide +kernel
theorem dX2_give_46 : decode cX2_give 46 = .ok (.iaload, 1) := by decide +kernel
theorem dX2_give_47 : decode cX2_give 47 = .ok (.iload_n 1, 1) := by decide +kernel
theorem dX2_give_48 : decode cX2_give 48 = .ok (.if_icmp .eq 14, 3) := by decide +kernel
theorem dX2_give_51 : decode cX2_give 51 = .ok (.aload_n 0, 1) := by decide +kernel
theorem dX2_give_52 : decode cX2_give 52 = .ok (.getfield 11, 3) := by decide +kernel
theorem dX2_give_55 : decode cX2_give 55 = .ok (.iload 7, 2) := by decide +kernel
theorem dX2_give_57 : decode cX2_give 57 = .ok (.iload_n 1, 1) := by decide +kernel
theorem dX2_give_58 : decode cX2_give 58 = .ok (.iastore, 1) := by decide +kernel
theorem dX2_give_59 : decode cX2_give 59 = .ok (.iinc 5 1, 3) := by decide +kernel
theorem dX2_give_62 : decode cX2_give 62 = .ok (.iinc 6 1, 3) := by decide +kernel
theorem dX2_give_65 : decode cX2_give 65 = .ok (.goto (-51), 3) := by decide +kernel
theorem dX2_give_68 : decode cX2_give 68 = .ok (.iload 5, 2) := by decide +kernel
theorem dX2_give_70 : decode cX2_give 70 = .ok (.ireturn, 1) := by decide +kernel
set_option maxRecDepth 20000 in
theorem ggX2_sectors_X2_isBegin : GoodIn wsX2_sectors wsX2_isBegin := goodIn_r _ [5, 6, 7, 8, 4, 9, 10, 11] (by decide +kernel) (by decide +kernel)
set_option maxRecDepth 20000 in
theorem gX2_sectors_X2_isBegin : GoodIn wsX2_sectors (wsV RX2 23 RX2 yX2_isBegin wsX2_isBegin) := goodIn_app (goodIn_of _ (by decide +kernel)) ggX2_sectors_X2_isBegin
theorem dX2_sectors_0 : decode cX2_sectors 0 = .ok (.iconst 0, 1) := by decide +kernel
theorem dX2_sectors_1 : decode cX2_sectors 1 = .ok (.istore_n 1, 1) := by decide +kernel
theorem dX2_sectors_2 : decode cX2_sectors 2 = .ok (.iconst 0, 1) := by decide +kernel
theorem dX2_sectors_3 : decode cX2_sectors 3 = .ok (.istore_n 2, 1) := by decide +kernel
theorem dX2_sectors_4 : decode cX2_sectors 4 = .ok (.iload_n 2, 1) := by decide +kernel
theorem dX2_sectors_5 : decode cX2_sectors 5 = .ok (.bipush 64, 2) := by decide +kernel
theorem dX2_sectors_7 : decode cX2_sectors 7 = .ok (.if_icmp .ge 20, 3) := by decide +kernel
theorem dX2_sectors_10 : decode cX2_sectors 10 = .ok (.aload_n 0, 1) := by decide +kernel
theorem dX2_sectors_11 : decode cX2_sectors 11 = .ok (.iload_n 2, 1) := by decide +kernel
theorem dX2_sectors_12 : decode cX2_sectors 12 = .ok (.invokevirtual 23, 3) := by decide +kernel
theorem dX2_sectors_15 : decode cX2_sectors 15 = .ok (.ifCond .eq 6, 3) := by decide +kernel
theorem dX2_sectors_18 : decode cX2_sectors 18 = .ok (.iinc 1 1, 3) := by decide +kernel
theorem dX2_sectors_21 : decode cX2_sectors 21 = .ok (.iinc 2 1, 3) := by decide +kernel
theorem dX2_sectors_24 : decode cX2_sectors 24 = .ok (.goto (-20), 3) := by decide +kernel
theorem dX2_sectors_27 : decode cX2_sectors 27 = .ok (.iload_n 1, 1) := by decide +kernel
theorem dX2_sectors_28 : decode cX2_sectors 28 = .ok (.ifCond .ne 7, 3) := by decide +kernel
theorem dX2_sectors_31 : decode cX2_sectors 31 = .ok (.iconst 1, 1) := by decide +kernel
theorem dX2_sectors_32 : decode cX2_sectors 32 = .ok (.goto 4, 3) := by decide +kernel
theorem dX2_sectors_35 : decode cX2_sectors 35 = .ok (.iload_n 1, 1) := by decide +kernel
theorem dX2_sectors_36 : decode cX2_sectors 36 = .ok (.ireturn, 1) := by decide +kernel
set_option maxRecDepth 20000 in
theorem ggX2_beginOf_X2_isBegin : GoodIn wsX2_beginOf wsX2_isBegin := goodIn_r _ [5, 6, 7, 8, 4, 9, 10, 11] (by decide +kernel) (by decide +kernel)
set_option maxRecDepth 20000 in
theorem gX2_beginOf_X2_isBegin : GoodIn wsX2_beginOf (wsV RX2 23 RX2 yX2_isBegin wsX2_isBegin) := goodIn_app (goodIn_of _ (by decide +kernel)) ggX2_beginOf_X2_isBegin
theorem dX2_beginOf_0 : decode cX2_beginOf 0 = .ok (.iconst 0, 1) := by decide +kernel
theorem dX2_beginOf_1 : decode cX2_beginOf 1 = .ok (.istore_n 2, 1) := by decide +kernel
theorem dX2_beginOf_2 : decode cX2_beginOf 2 = .ok (.iconst 0, 1) := by decide +kernel
theorem dX2_beginOf_3 : decode cX2_beginOf 3 = .ok (.istore_n 3, 1) := by decide +kernel
theorem dX2_beginOf_4 : decode cX2_beginOf 4 = .ok (.iload_n 3, 1) := by decide +kernel
theorem dX2_beginOf_5 : decode cX2_beginOf 5 = .ok (.bipush 64, 2) := by decide +kernel
theorem dX2_beginOf_7 : decode cX2_beginOf 7 = .ok (.if_icmp .ge 27, 3) := by decide +kernel
theorem dX2_beginOf_10 : decode cX2_beginOf 10 = .ok (.aload_n 0, 1) := by decide +kernel
theorem dX2_beginOf_11 : decode cX2_beginOf 11 = .ok (.iload_n 3, 1) := by decide +kernel
theorem dX2_beginOf_12 : decode cX2_beginOf 12 = .ok (.invokevirtual 23, 3) := by decide +kernel
theorem dX2_beginOf_15 : decode cX2_beginOf 15 = .ok (.ifCond .eq 13, 3) := by decide +kernel
theorem dX2_beginOf_18 : decode cX2_beginOf 18 = .ok (.iload_n 2, 1) := by decide +kernel
theorem dX2_beginOf_19 : decode cX2_beginOf 19 = .ok (.iload_n 1, 1) := by decide +kernel
theorem dX2_beginOf_20 : decode cX2_beginOf 20 = .ok (.if_icmp .ne 5, 3) := by decide +kernel
theorem dX2_beginOf_23 : decode cX2_beginOf 23 = .ok (.iload_n 3, 1) := by decide +kernel
theorem dX2_beginOf_24 : decode cX2_beginOf 24 = .ok (.ireturn, 1) := by decide +kernel
theorem dX2_beginOf_25 : decode cX2_beginOf 25 = .ok (.iinc 2 1, 3) := by decide +kernel
theorem dX2_beginOf_28 : decode cX2_beginOf 28 = .ok (.iinc 3 1, 3) := by decide +kernel
theorem dX2_beginOf_31 : decode cX2_beginOf 31 = .ok (.goto (-27), 3) := by decide +kernel
theorem dX2_beginOf_34 : decode cX2_beginOf 34 = .ok (.iload_n 2, 1) := by decide +kernel
theorem dX2_beginOf_35 : decode cX2_beginOf 35 = .ok (.ifCond .ne 11, 3) := by decide +kernel
theorem dX2_beginOf_38 : decode cX2_beginOf 38 = .ok (.iload_n 1, 1) := by decide +kernel
theorem dX2_beginOf_39 : decode cX2_beginOf 39 = .ok (.ifCond .ne 7, 3) := by decide +kernel
theorem dX2_beginOf_42 : decode cX2_beginOf 42 = .ok (.iconst 0, 1) := by decide +kernel
theorem dX2_beginOf_43 : decode cX2_beginOf 43 = .ok (.goto 4, 3) := by decide +kernel
theorem dX2_beginOf_46 : decode cX2_beginOf 46 = .ok (.iconst (-1), 1) := by decide +kernel
theorem dX2_beginOf_47 : decode cX2_beginOf 47 = .ok (.ireturn, 1) := by decide +kernel
set_option maxRecDepth 20000 in
theorem ggX2_lengthFrom_X2_colorAt : GoodIn wsX2_lengthFrom wsX2_colorAt := goodIn_r _ [5, 6, 7] (by decide +kernel) (by decide +kernel)
set_option maxRecDepth 20000 in
theorem gX2_lengthFrom_X2_colorAt : GoodIn wsX2_lengthFrom (wsV RX2 27 RX2 yX2_colorAt wsX2_colorAt) := goodIn_app (goodIn_of _ (by decide +kernel)) ggX2_lengthFrom_X2_colorAt
theorem dX2_lengthFrom_0 : decode cX2_lengthFrom 0 = .ok (.iconst 1, 1) := by decide +kernel
theorem dX2_lengthFrom_1 : decode cX2_lengthFrom 1 = .ok (.istore_n 2, 1) := by decide +kernel
theorem dX2_lengthFrom_2 : decode cX2_lengthFrom 2 = .ok (.iload_n 2, 1) := by decide +kernel
theorem dX2_lengthFrom_3 : decode cX2_lengthFrom 3 = .ok (.bipush 64, 2) := by decide +kernel
theorem dX2_lengthFrom_5 : decode cX2_lengthFrom 5 = .ok (.if_icmp .ge 24, 3) := by decide +kernel
theorem dX2_lengthFrom_8 : decode cX2_lengthFrom 8 = .ok (.aload_n 0, 1) := by decide +kernel
theorem dX2_lengthFrom_9 : decode cX2_lengthFrom 9 = .ok (.iload_n 1, 1) := by decide +kernel
theorem dX2_lengthFrom_10 : decode cX2_lengthFrom 10 = .ok (.iload_n 2, 1) := by decide +kernel
theorem dX2_lengthFrom_11 : decode cX2_lengthFrom 11 = .ok (.iadd, 1) := by decide +kernel
theorem dX2_lengthFrom_12 : decode cX2_lengthFrom 12 = .ok (.invokevirtual 27, 3) := by decide +kernel
theorem dX2_lengthFrom_15 : decode cX2_lengthFrom 15 = .ok (.aload_n 0, 1) := by decide +kernel
theorem dX2_lengthFrom_16 : decode cX2_lengthFrom 16 = .ok (.iload_n 1, 1) := by decide +kernel
theorem dX2_lengthFrom_17 : decode cX2_lengthFrom 17 = .ok (.invokevirtual 27, 3) := by decide +kernel
theorem dX2_lengthFrom_20 : decode cX2_lengthFrom 20 = .ok (.if_icmp .ne 9, 3) := by decide +kernel
theorem dX2_lengthFrom_23 : decode cX2_lengthFrom 23 = .ok (.iinc 2 1, 3) := by decide +kernel
theorem dX2_lengthFrom_26 : decode cX2_lengthFrom 26 = .ok (.goto (-24), 3) := by decide +kernel
theorem dX2_lengthFrom_29 : decode cX2_lengthFrom 29 = .ok (.iload_n 2, 1) := by decide +kernel
theorem dX2_lengthFrom_30 : decode cX2_lengthFrom 30 = .ok (.ireturn, 1) := by decide +kernel
set_option maxRecDepth 20000 in
theorem ggX2_differences_X2_colorAt : GoodIn wsX2_differences wsX2_colorAt := goodIn_r _ [5, 6, 7] (by decide +kernel) (by decide +kernel)
set_option maxRecDepth 20000 in
theorem gX2_differences_X2_colorAt : GoodIn wsX2_differences (wsV RX2 27 RX2 yX2_colorAt wsX2_colorAt) := goodIn_app (goodIn_of _ (by decide +kernel)) ggX2_differences_X2_colorAt
theorem dX2_differences_0 : decode cX2_differences 0 = .ok (.iconst 0, 1) := by decide +kernel
theorem dX2_differences_1 : decode cX2_differences 1 = .ok (.istore_n 2, 1) := by decide +kernel
theorem dX2_differences_2 : decode cX2_differences 2 = .ok (.iconst 0, 1) := by decide +kernel
theorem dX2_differences_3 : decode cX2_differences 3 = .ok (.istore_n 3, 1) := by decide +kernel
theorem dX2_differences_4 : decode cX2_differences 4 = .ok (.iload_n 3, 1) := by decide +kernel
theorem dX2_differences_5 : decode cX2_differences 5 = .ok (.bipush 64, 2) := by decide +kernel
theorem dX2_differences_7 : decode cX2_differences 7 = .ok (.if_icmp .ge 25, 3) := by decide +kernel
theorem dX2_differences_10 : decode cX2_differences 10 = .ok (.aload_n 0, 1) := by decide +kernel
theorem dX2_differences_11 : decode cX2_differences 11 = .ok (.iload_n 3, 1) := by decide +kernel
theorem dX2_differences_12 : decode cX2_differences 12 = .ok (.invokevirtual 27, 3) := by decide +kernel
theorem dX2_differences_15 : decode cX2_differences 15 = .ok (.aload_n 1, 1) := by decide +kernel
theorem dX2_differences_16 : decode cX2_differences 16 = .ok (.iload_n 3, 1) := by decide +kernel
theorem dX2_differences_17 : decode cX2_differences 17 = .ok (.invokevirtual 27, 3) := by decide +kernel
theorem dX2_differences_20 : decode cX2_differences 20 = .ok (.if_icmp .eq 6, 3) := by decide +kernel
theorem dX2_differences_23 : decode cX2_differences 23 = .ok (.iinc 2 1, 3) := by decide +kernel
theorem dX2_differences_26 : decode cX2_differences 26 = .ok (.iinc 3 1, 3) := by decide +kernel
theorem dX2_differences_29 : decode cX2_differences 29 = .ok (.goto (-25), 3) := by decide +kernel
theorem dX2_differences_32 : decode cX2_differences 32 = .ok (.iload_n 2, 1) := by decide +kernel
theorem dX2_differences_33 : decode cX2_differences 33 = .ok (.ireturn, 1) := by decide +kernel
set_option maxRecDepth 20000 in
theorem ggX2_isBegin_X2_colorAt : GoodIn wsX2_isBegin wsX2_colorAt := goodIn_r _ [5, 6, 7] (by decide +kernel) (by decide +kernel)
set_option maxRecDepth 20000 in
theorem gX2_isBegin_X2_colorAt : GoodIn wsX2_isBegin (wsV RX2 27 RX2 yX2_colorAt wsX2_colorAt) := goodIn_app (goodIn_of _ (by decide +kernel)) ggX2_isBegin_X2_colorAt
theorem dX2_isBegin_0 : decode cX2_isBegin 0 = .ok (.aload_n 0, 1) := by decide +kernel
theorem dX2_isBegin_1 : decode cX2_isBegin 1 = .ok (.iload_n 1, 1) := by decide +kernel
theorem dX2_isBegin_2 : decode cX2_isBegin 2 = .ok (.invokevirtual 27, 3) := by decide +kernel
theorem dX2_isBegin_5 : decode cX2_isBegin 5 = .ok (.aload_n 0, 1) := by decide +kernel
theorem dX2_isBegin_6 : decode cX2_isBegin 6 = .ok (.iload_n 1, 1) := by decide +kernel
theorem dX2_isBegin_7 : decode cX2_isBegin 7 = .ok (.iconst 1, 1) := by decide +kernel
theorem dX2_isBegin_8 : decode cX2_isBegin 8 = .ok (.isub, 1) := by decide +kernel
theorem dX2_isBegin_9 : decode cX2_isBegin 9 = .ok (.invokevirtual 27, 3) := by decide +kernel
theorem dX2_isBegin_12 : decode cX2_isBegin 12 = .ok (.if_icmp .eq 7, 3) := by decide +kernel
theorem dX2_isBegin_15 : decode cX2_isBegin 15 = .ok (.iconst 1, 1) := by decide +kernel
theorem dX2_isBegin_16 : decode cX2_isBegin 16 = .ok (.goto 4, 3) := by decide +kernel
theorem dX2_isBegin_19 : decode cX2_isBegin 19 = .ok (.iconst 0, 1) := by decide +kernel
theorem dX2_isBegin_20 : decode cX2_isBegin 20 = .ok (.ireturn, 1) := by decide +kernel
theorem dX3_east_0 : decode cX3_east 0 = .ok (.iload_n 0, 1) := by decide +kernel
theorem dX3_east_1 : decode cX3_east 1 = .ok (.bipush 63, 2) := by decide +kernel
theorem dX3_east_3 : decode cX3_east 3 = .ok (.iand, 1) := by decide +kernel
theorem dX3_east_4 : decode cX3_east 4 = .ok (.istore_n 1, 1) := by decide +kernel
theorem dX3_east_5 : decode cX3_east 5 = .ok (.iload_n 1, 1) := by decide +kernel
theorem dX3_east_6 : decode cX3_east 6 = .ok (.bipush 32, 2) := by decide +kernel
theorem dX3_east_8 : decode cX3_east 8 = .ok (.if_icmp .lt 7, 3) := by decide +kernel
theorem dX3_east_11 : decode cX3_east 11 = .ok (.iconst 1, 1) := by decide +kernel
theorem dX3_east_12 : decode cX3_east 12 = .ok (.goto 4, 3) := by decide +kernel
theorem dX3_east_15 : decode cX3_east 15 = .ok (.iconst 0, 1) := by decide +kernel
theorem dX3_east_16 : decode cX3_east 16 = .ok (.istore_n 2, 1) := by decide +kernel
theorem dX3_east_17 : decode cX3_east 17 = .ok (.iload_n 2, 1) := by decide +kernel
theorem dX3_east_18 : decode cX3_east 18 = .ok (.ifCond .eq 10, 3) := by decide +kernel
theorem dX3_east_21 : decode cX3_east 21 = .ok (.iload_n 1, 1) := by decide +kernel
theorem dX3_east_22 : decode cX3_east 22 = .ok (.bipush 32, 2) := by decide +kernel
theorem dX3_east_24 : decode cX3_east 24 = .ok (.isub, 1) := by decide +kernel
theorem dX3_east_25 : decode cX3_east 25 = .ok (.goto 4, 3) := by decide +kernel
theorem dX3_east_28 : decode cX3_east 28 = .ok (.iload_n 1, 1) := by decide +kernel
theorem dX3_east_29 : decode cX3_east 29 = .ok (.istore_n 3, 1) := by decide +kernel
theorem dX3_east_30 : decode cX3_east 30 = .ok (.iload_n 3, 1) := by decide +kernel
theorem dX3_east_31 : decode cX3_east 31 = .ok (.bipush 16, 2) := by decide +kernel
theorem dX3_east_33 : decode cX3_east 33 = .ok (.if_icmp .le 10, 3) := by decide +kernel
theorem dX3_east_36 : decode cX3_east 36 = .ok (.bipush 32, 2) := by decide +kernel
theorem dX3_east_38 : decode cX3_east 38 = .ok (.iload_n 3, 1) := by decide +kernel
theorem dX3_east_39 : decode cX3_east 39 = .ok (.isub, 1) := by decide +kernel
theorem dX3_east_40 : decode cX3_east 40 = .ok (.goto 4, 3) := by decide +kernel
theorem dX3_east_43 : decode cX3_east 43 = .ok (.iload_n 3, 1) := by decide +kernel
theorem dX3_east_44 : decode cX3_east 44 = .ok (.istore 4, 2) := by decide +kernel
theorem dX3_east_46 : decode cX3_east 46 = .ok (.iload 4, 2) := by decide +kernel
theorem dX3_east_48 : decode cX3_east 48 = .ok (.ifCond .lt 12, 3) := by decide +kernel
theorem dX3_east_51 : decode cX3_east 51 = .ok (.iload 4, 2) := by decide +kernel
theorem dX3_east_53 : decode cX3_east 53 = .ok (.getstatic 11, 3) := by decide +kernel
theorem dX3_east_56 : decode cX3_east 56 = .ok (.arraylength, 1) := by decide +kernel
theorem dX3_east_57 : decode cX3_east 57 = .ok (.if_icmp .lt 5, 3) := by decide +kernel
theorem dX3_east_60 : decode cX3_east 60 = .ok (.iconst 0, 1) := by decide +kernel
theorem dX3_east_61 : decode cX3_east 61 = .ok (.ireturn, 1) := by decide +kernel
theorem dX3_east_62 : decode cX3_east 62 = .ok (.iload_n 2, 1) := by decide +kernel
theorem dX3_east_63 : decode cX3_east 63 = .ok (.ifCond .eq 13, 3) := by decide +kernel
theorem dX3_east_66 : decode cX3_east 66 = .ok (.getstatic 11, 3) := by decide +kernel
theorem dX3_east_69 : decode cX3_east 69 = .ok (.iload 4, 2) := by decide +kernel
theorem dX3_east_71 : decode cX3_east 71 = .ok (.iaload, 1) := by decide +kernel
theorem dX3_east_72 : decode cX3_east 72 = .ok (.ineg, 1) := by decide +kernel
theorem dX3_east_73 : decode cX3_east 73 = .ok (.goto 9, 3) := by decide +kernel
theorem dX3_east_76 : decode cX3_east 76 = .ok (.getstatic 11, 3) := by decide +kernel
theorem dX3_east_79 : decode cX3_east 79 = .ok (.iload 4, 2) := by decide +kernel
theorem dX3_east_81 : decode cX3_east 81 = .ok (.iaload, 1) := by decide +kernel
theorem dX3_east_82 : decode cX3_east 82 = .ok (.ireturn, 1) := by decide +kernel
set_option maxRecDepth 20000 in
theorem ggX3_north_X3_east : GoodIn wsX3_north wsX3_east := goodIn_r _ [4, 5] (by decide +kernel) (by decide +kernel)
set_option maxRecDepth 20000 in
theorem gX3_north_X3_east : GoodIn wsX3_north (va_wsS RX3 15 yX3_east wsX3_east) := goodIn_app (goodIn_of _ (by decide +kernel)) ggX3_north_X3_east
theorem dX3_north_0 : decode cX3_north 0 = .ok (.iload_n 0, 1) := by decide +kernel
theorem dX3_north_1 : decode cX3_north 1 = .ok (.bipush 16, 2) := by decide +kernel
theorem dX3_north_3 : decode cX3_north 3 = .ok (.iadd, 1) := by decide +kernel
theorem dX3_north_4 : decode cX3_north 4 = .ok (.invokestatic 15, 3) := by decide +kernel
theorem dX3_north_7 : decode cX3_north 7 = .ok (.ireturn, 1) := by decide +kernel
set_option maxRecDepth 20000 in
theorem ggX3_between_X3_north : GoodIn wsX3_between wsX3_north := goodIn_r _ [4, 5, 6, 3, 7, 8] (by decide +kernel) (by decide +kernel)
set_option maxRecDepth 20000 in
theorem gX3_between_X3_north : GoodIn wsX3_between (va_wsS RX3 19 yX3_north wsX3_north) := goodIn_app (goodIn_of _ (by decide +kernel)) ggX3_between_X3_north
set_option maxRecDepth 20000 in
theorem ggX3_between_X3_east : GoodIn wsX3_between wsX3_east := goodIn_r _ [7, 8] (by decide +kernel) (by decide +kernel)
set_option maxRecDepth 20000 in
theorem gX3_between_X3_east : GoodIn wsX3_between (va_wsS RX3 15 yX3_east wsX3_east) := goodIn_app (goodIn_of _ (by decide +kernel)) ggX3_between_X3_east
theorem dX3_between_0 : decode cX3_between 0 = .ok (.iconst 0, 1) := by decide +kernel
theorem dX3_between_1 : decode cX3_between 1 = .ok (.istore_n 2, 1) := by decide +kernel
theorem dX3_between_2 : decode cX3_between 2 = .ok (.iload_n 2, 1) := by decide +kernel
theorem dX3_between_3 : decode cX3_between 3 = .ok (.bipush 64, 2) := by decide +kernel
theorem dX3_between_5 : decode cX3_between 5 = .ok (.if_icmp .ge 47, 3) := by decide +kernel
theorem dX3_between_8 : decode cX3_between 8 = .ok (.iload_n 0, 1) := by decide +kernel
theorem dX3_between_9 : decode cX3_between 9 = .ok (.iload_n 2, 1) := by decide +kernel
theorem dX3_between_10 : decode cX3_between 10 = .ok (.invokestatic 19, 3) := by decide +kernel
theorem dX3_between_13 : decode cX3_between 13 = .ok (.imul, 1) := by decide +kernel
theorem dX3_between_14 : decode cX3_between 14 = .ok (.iload_n 1, 1) := by decide +kernel
theorem dX3_between_15 : decode cX3_between 15 = .ok (.iload_n 2, 1) := by decide +kernel
theorem dX3_between_16 : decode cX3_between 16 = .ok (.invokestatic 15, 3) := by decide +kernel
theorem dX3_between_19 : decode cX3_between 19 = .ok (.imul, 1) := by decide +kernel
theorem dX3_between_20 : decode cX3_between 20 = .ok (.isub, 1) := by decide +kernel
theorem dX3_between_21 : decode cX3_between 21 = .ok (.ifCond .lt 25, 3) := by decide +kernel
theorem dX3_between_24 : decode cX3_between 24 = .ok (.iload_n 0, 1) := by decide +kernel
theorem dX3_between_25 : decode cX3_between 25 = .ok (.iload_n 2, 1) := by decide +kernel
theorem dX3_between_26 : decode cX3_between 26 = .ok (.iconst 1, 1) := by decide +kernel
theorem dX3_between_27 : decode cX3_between 27 = .ok (.iadd, 1) := by decide +kernel
theorem dX3_between_28 : decode cX3_between 28 = .ok (.invokestatic 19, 3) := by decide +kernel
theorem dX3_between_31 : decode cX3_between 31 = .ok (.imul, 1) := by decide +kernel
theorem dX3_between_32 : decode cX3_between 32 = .ok (.iload_n 1, 1) := by decide +kernel
theorem dX3_between_33 : decode cX3_between 33 = .ok (.iload_n 2, 1) := by decide +kernel
theorem dX3_between_34 : decode cX3_between 34 = .ok (.iconst 1, 1) := by decide +kernel
theorem dX3_between_35 : decode cX3_between 35 = .ok (.iadd, 1) := by decide +kernel
theorem dX3_between_36 : decode cX3_between 36 = .ok (.invokestatic 15, 3) := by decide +kernel
theorem dX3_between_39 : decode cX3_between 39 = .ok (.imul, 1) := by decide +kernel
theorem dX3_between_40 : decode cX3_between 40 = .ok (.isub, 1) := by decide +kernel
theorem dX3_between_41 : decode cX3_between 41 = .ok (.ifCond .ge 5, 3) := by decide +kernel
theorem dX3_between_44 : decode cX3_between 44 = .ok (.iload_n 2, 1) := by decide +kernel
theorem dX3_between_45 : decode cX3_between 45 = .ok (.ireturn, 1) := by decide +kernel
theorem dX3_between_46 : decode cX3_between 46 = .ok (.iinc 2 1, 3) := by decide +kernel
theorem dX3_between_49 : decode cX3_between 49 = .ok (.goto (-47), 3) := by decide +kernel
theorem dX3_between_52 : decode cX3_between 52 = .ok (.bipush (-4), 2) := by decide +kernel
theorem dX3_between_54 : decode cX3_between 54 = .ok (.ireturn, 1) := by decide +kernel
set_option maxRecDepth 20000 in
theorem ggX3_byQuarter_X3_greatestPoint : GoodIn wsX3_byQuarter wsX3_greatestPoint := goodIn_r _ [4, 5, 6, 3, 7, 8, 9, 10, 11] (by decide +kernel) (by decide +kernel)
set_option maxRecDepth 20000 in
theorem gX3_byQuarter_X3_greatestPoint : GoodIn wsX3_byQuarter (va_wsS RX3 22 yX3_greatestPoint wsX3_greatestPoint) := goodIn_app (goodIn_of _ (by decide +kernel)) ggX3_byQuarter_X3_greatestPoint
theorem dX3_byQuarter_0 : decode cX3_byQuarter 0 = .ok (.iload_n 0, 1) := by decide +kernel
theorem dX3_byQuarter_1 : decode cX3_byQuarter 1 = .ok (.ifCond .lt 13, 3) := by decide +kernel
theorem dX3_byQuarter_4 : decode cX3_byQuarter 4 = .ok (.iload_n 1, 1) := by decide +kernel
theorem dX3_byQuarter_5 : decode cX3_byQuarter 5 = .ok (.ifCond .le 9, 3) := by decide +kernel
theorem dX3_byQuarter_8 : decode cX3_byQuarter 8 = .ok (.iload_n 0, 1) := by decide +kernel
theorem dX3_byQuarter_9 : decode cX3_byQuarter 9 = .ok (.iload_n 1, 1) := by decide +kernel
theorem dX3_byQuarter_10 : decode cX3_byQuarter 10 = .ok (.invokestatic 22, 3) := by decide +kernel
theorem dX3_byQuarter_13 : decode cX3_byQuarter 13 = .ok (.ireturn, 1) := by decide +kernel
theorem dX3_byQuarter_14 : decode cX3_byQuarter 14 = .ok (.iload_n 0, 1) := by decide +kernel
theorem dX3_byQuarter_15 : decode cX3_byQuarter 15 = .ok (.ifCond .le 13, 3) := by decide +kernel
theorem dX3_byQuarter_18 : decode cX3_byQuarter 18 = .ok (.bipush 16, 2) := by decide +kernel
theorem dX3_byQuarter_20 : decode cX3_byQuarter 20 = .ok (.iload_n 1, 1) := by decide +kernel
theorem dX3_byQuarter_21 : decode cX3_byQuarter 21 = .ok (.ineg, 1) := by decide +kernel
theorem dX3_byQuarter_22 : decode cX3_byQuarter 22 = .ok (.iload_n 0, 1) := by decide +kernel
theorem dX3_byQuarter_23 : decode cX3_byQuarter 23 = .ok (.invokestatic 22, 3) := by decide +kernel
theorem dX3_byQuarter_26 : decode cX3_byQuarter 26 = .ok (.iadd, 1) := by decide +kernel
theorem dX3_byQuarter_27 : decode cX3_byQuarter 27 = .ok (.ireturn, 1) := by decide +kernel
theorem dX3_byQuarter_28 : decode cX3_byQuarter 28 = .ok (.iload_n 1, 1) := by decide +kernel
theorem dX3_byQuarter_29 : decode cX3_byQuarter 29 = .ok (.ifCond .ge 14, 3) := by decide +kernel
theorem dX3_byQuarter_32 : decode cX3_byQuarter 32 = .ok (.bipush 32, 2) := by decide +kernel
theorem dX3_byQuarter_34 : decode cX3_byQuarter 34 = .ok (.iload_n 0, 1) := by decide +kernel
theorem dX3_byQuarter_35 : decode cX3_byQuarter 35 = .ok (.ineg, 1) := by decide +kernel
theorem dX3_byQuarter_36 : decode cX3_byQuarter 36 = .ok (.iload_n 1, 1) := by decide +kernel
theorem dX3_byQuarter_37 : decode cX3_byQuarter 37 = .ok (.ineg, 1) := by decide +kernel
theorem dX3_byQuarter_38 : decode cX3_byQuarter 38 = .ok (.invokestatic 22, 3) := by decide +kernel
theorem dX3_byQuarter_41 : decode cX3_byQuarter 41 = .ok (.iadd, 1) := by decide +kernel
theorem dX3_byQuarter_42 : decode cX3_byQuarter 42 = .ok (.ireturn, 1) := by decide +kernel
theorem dX3_byQuarter_43 : decode cX3_byQuarter 43 = .ok (.iload_n 0, 1) := by decide +kernel
theorem dX3_byQuarter_44 : decode cX3_byQuarter 44 = .ok (.ifCond .ge 15, 3) := by decide +kernel
theorem dX3_byQuarter_47 : decode cX3_byQuarter 47 = .ok (.bipush 48, 2) := by decide +kernel
theorem dX3_byQuarter_49 : decode cX3_byQuarter 49 = .ok (.iload_n 1, 1) := by decide +kernel
theorem dX3_byQuarter_50 : decode cX3_byQuarter 50 = .ok (.iload_n 0, 1) := by decide +kernel
theorem dX3_byQuarter_51 : decode cX3_byQuarter 51 = .ok (.ineg, 1) := by decide +kernel
theorem dX3_byQuarter_52 : decode cX3_byQuarter 52 = .ok (.invokestatic 22, 3) := by decide +kernel
theorem dX3_byQuarter_55 : decode cX3_byQuarter 55 = .ok (.iadd, 1) := by decide +kernel
theorem dX3_byQuarter_56 : decode cX3_byQuarter 56 = .ok (.goto 5, 3) := by decide +kernel
theorem dX3_byQuarter_59 : decode cX3_byQuarter 59 = .ok (.bipush (-4), 2) := by decide +kernel
theorem dX3_byQuarter_61 : decode cX3_byQuarter 61 = .ok (.ireturn, 1) := by decide +kernel
set_option maxRecDepth 20000 in
theorem ggX3_greatestPoint_X3_north : GoodIn wsX3_greatestPoint wsX3_north := goodIn_r _ [4, 5, 6, 3, 7, 8] (by decide +kernel) (by decide +kernel)
set_option maxRecDepth 20000 in
theorem gX3_greatestPoint_X3_north : GoodIn wsX3_greatestPoint (va_wsS RX3 19 yX3_north wsX3_north) := goodIn_app (goodIn_of _ (by decide +kernel)) ggX3_greatestPoint_X3_north
set_option maxRecDepth 20000 in
theorem ggX3_greatestPoint_X3_east : GoodIn wsX3_greatestPoint wsX3_east := goodIn_r _ [7, 8] (by decide +kernel) (by decide +kernel)
set_option maxRecDepth 20000 in
theorem gX3_greatestPoint_X3_east : GoodIn wsX3_greatestPoint (va_wsS RX3 15 yX3_east wsX3_east) := goodIn_app (goodIn_of _ (by decide +kernel)) ggX3_greatestPoint_X3_east
theorem dX3_greatestPoint_0 : decode cX3_greatestPoint 0 = .ok (.bipush 15, 2) := by decide +kernel
theorem dX3_greatestPoint_2 : decode cX3_greatestPoint 2 = .ok (.istore_n 2, 1) := by decide +kernel
theorem dX3_greatestPoint_3 : decode cX3_greatestPoint 3 = .ok (.iload_n 2, 1) := by decide +kernel
theorem dX3_greatestPoint_4 : decode cX3_greatestPoint 4 = .ok (.ifCond .le 26, 3) := by decide +kernel
theorem dX3_greatestPoint_7 : decode cX3_greatestPoint 7 = .ok (.iload_n 0, 1) := by decide +kernel
theorem dX3_greatestPoint_8 : decode cX3_greatestPoint 8 = .ok (.iload_n 2, 1) := by decide +kernel
theorem dX3_greatestPoint_9 : decode cX3_greatestPoint 9 = .ok (.invokestatic 19, 3) := by decide +kernel
theorem dX3_greatestPoint_12 : decode cX3_greatestPoint 12 = .ok (.imul, 1) := by decide +kernel
theorem dX3_greatestPoint_13 : decode cX3_greatestPoint 13 = .ok (.iload_n 1, 1) := by decide +kernel
theorem dX3_greatestPoint_14 : decode cX3_greatestPoint 14 = .ok (.iload_n 2, 1) := by decide +kernel
theorem dX3_greatestPoint_15 : decode cX3_greatestPoint 15 = .ok (.invokestatic 15, 3) := by decide +kernel
theorem dX3_greatestPoint_18 : decode cX3_greatestPoint 18 = .ok (.imul, 1) := by decide +kernel
theorem dX3_greatestPoint_19 : decode cX3_greatestPoint 19 = .ok (.if_icmp .lt 5, 3) := by decide +kernel
theorem dX3_greatestPoint_22 : decode cX3_greatestPoint 22 = .ok (.iload_n 2, 1) := by decide +kernel
theorem dX3_greatestPoint_23 : decode cX3_greatestPoint 23 = .ok (.ireturn, 1) := by decide +kernel
theorem dX3_greatestPoint_24 : decode cX3_greatestPoint 24 = .ok (.iinc 2 (-1), 3) := by decide +kernel
theorem dX3_greatestPoint_27 : decode cX3_greatestPoint 27 = .ok (.goto (-24), 3) := by decide +kernel
theorem dX3_greatestPoint_30 : decode cX3_greatestPoint 30 = .ok (.iconst 0, 1) := by decide +kernel
theorem dX3_greatestPoint_31 : decode cX3_greatestPoint 31 = .ok (.ireturn, 1) := by decide +kernel
theorem dX4_init_0 : decode cX4_init 0 = .ok (.aload_n 0, 1) := by decide +kernel
theorem dX4_init_1 : decode cX4_init 1 = .ok (.invokespecial 1, 3) := by decide +kernel
theorem dX4_init_4 : decode cX4_init 4 = .ok (.aload_n 0, 1) := by decide +kernel
theorem dX4_init_5 : decode cX4_init 5 = .ok (.bipush 8, 2) := by decide +kernel
theorem dX4_init_7 : decode cX4_init 7 = .ok (.newarray .int, 2) := by decide +kernel
theorem dX4_init_9 : decode cX4_init 9 = .ok (.putfield 9, 3) := by decide +kernel
theorem dX4_init_12 : decode cX4_init 12 = .ok (.aload_n 0, 1) := by decide +kernel
theorem dX4_init_13 : decode cX4_init 13 = .ok (.bipush 8, 2) := by decide +kernel
theorem dX4_init_15 : decode cX4_init 15 = .ok (.newarray .int, 2) := by decide +kernel
theorem dX4_init_17 : decode cX4_init 17 = .ok (.putfield 13, 3) := by decide +kernel
theorem dX4_init_20 : decode cX4_init 20 = .ok (.aload_n 0, 1) := by decide +kernel
theorem dX4_init_21 : decode cX4_init 21 = .ok (.getfield 9, 3) := by decide +kernel
theorem dX4_init_24 : decode cX4_init 24 = .ok (.iconst 0, 1) := by decide +kernel
theorem dX4_init_25 : decode cX4_init 25 = .ok (.iconst 2, 1) := by decide +kernel
theorem dX4_init_26 : decode cX4_init 26 = .ok (.iastore, 1) := by decide +kernel
theorem dX4_init_27 : decode cX4_init 27 = .ok (.aload_n 0, 1) := by decide +kernel
theorem dX4_init_28 : decode cX4_init 28 = .ok (.getfield 13, 3) := by decide +kernel
theorem dX4_init_31 : decode cX4_init 31 = .ok (.iconst 0, 1) := by decide +kernel
theorem dX4_init_32 : decode cX4_init 32 = .ok (.iconst 2, 1) := by decide +kernel
theorem dX4_init_33 : decode cX4_init 33 = .ok (.iastore, 1) := by decide +kernel
theorem dX4_init_34 : decode cX4_init 34 = .ok (.aload_n 0, 1) := by decide +kernel
theorem dX4_init_35 : decode cX4_init 35 = .ok (.iconst 1, 1) := by decide +kernel
theorem dX4_init_36 : decode cX4_init 36 = .ok (.putfield 16, 3) := by decide +kernel
theorem dX4_init_39 : decode cX4_init 39 = .ok (.aload_n 0, 1) := by decide +kernel
theorem dX4_init_40 : decode cX4_init 40 = .ok (.iconst 2, 1) := by decide +kernel
theorem dX4_init_41 : decode cX4_init 41 = .ok (.putfield 20, 3) := by decide +kernel
theorem dX4_init_44 : decode cX4_init 44 = .ok (.aload_n 0, 1) := by decide +kernel
theorem dX4_init_45 : decode cX4_init 45 = .ok (.iconst 2, 1) := by decide +kernel
theorem dX4_init_46 : decode cX4_init 46 = .ok (.putfield 23, 3) := by decide +kernel
theorem dX4_init_49 : decode cX4_init 49 = .ok (.return_, 1) := by decide +kernel
theorem dX4_become_0 : decode cX4_become 0 = .ok (.aload_n 1, 1) := by decide +kernel
theorem dX4_become_1 : decode cX4_become 1 = .ok (.getfield 9, 3) := by decide +kernel
theorem dX4_become_4 : decode cX4_become 4 = .ok (.iconst 0, 1) := by decide +kernel
theorem dX4_become_5 : decode cX4_become 5 = .ok (.aload_n 0, 1) := by decide +kernel
theorem dX4_become_6 : decode cX4_become 6 = .ok (.getfield 9, 3) := by decide +kernel
theorem dX4_become_9 : decode cX4_become 9 = .ok (.iconst 0, 1) := by decide +kernel
theorem dX4_become_10 : decode cX4_become 10 = .ok (.aload_n 0, 1) := by decide +kernel
theorem dX4_become_11 : decode cX4_become 11 = .ok (.getfield 9, 3) := by decide +kernel
theorem dX4_become_14 : decode cX4_become 14 = .ok (.arraylength, 1) := by decide +kernel
theorem dX4_become_15 : decode cX4_become 15 = .ok (.invokestatic 26, 3) := by decide +kernel
theorem dX4_become_18 : decode cX4_become 18 = .ok (.aload_n 1, 1) := by decide +kernel
theorem dX4_become_19 : decode cX4_become 19 = .ok (.getfield 13, 3) := by decide +kernel
theorem dX4_become_22 : decode cX4_become 22 = .ok (.iconst 0, 1) := by decide +kernel
theorem dX4_become_23 : decode cX4_become 23 = .ok (.aload_n 0, 1) := by decide +kernel
theorem dX4_become_24 : decode cX4_become 24 = .ok (.getfield 13, 3) := by decide +kernel
theorem dX4_become_27 : decode cX4_become 27 = .ok (.iconst 0, 1) := by decide +kernel
theorem dX4_become_28 : decode cX4_become 28 = .ok (.aload_n 0, 1) := by decide +kernel
theorem dX4_become_29 : decode cX4_become 29 = .ok (.getfield 13, 3) := by decide +kernel
theorem dX4_become_32 : decode cX4_become 32 = .ok (.arraylength, 1) := by decide +kernel
theorem dX4_become_33 : decode cX4_become 33 = .ok (.invokestatic 26, 3) := by decide +kernel
theorem dX4_become_36 : decode cX4_become 36 = .ok (.aload_n 0, 1) := by decide +kernel
theorem dX4_become_37 : decode cX4_become 37 = .ok (.aload_n 1, 1) := by decide +kernel
theorem dX4_become_38 : decode cX4_become 38 = .ok (.getfield 16, 3) := by decide +kernel
theorem dX4_become_41 : decode cX4_become 41 = .ok (.putfield 16, 3) := by decide +kernel
theorem dX4_become_44 : decode cX4_become 44 = .ok (.aload_n 0, 1) := by decide +kernel
theorem dX4_become_45 : decode cX4_become 45 = .ok (.aload_n 1, 1) := by decide +kernel
theorem dX4_become_46 : decode cX4_become 46 = .ok (.getfield 20, 3) := by decide +kernel
theorem dX4_become_49 : decode cX4_become 49 = .ok (.putfield 20, 3) := by decide +kernel
theorem dX4_become_52 : decode cX4_become 52 = .ok (.aload_n 0, 1) := by decide +kernel
theorem dX4_become_53 : decode cX4_become 53 = .ok (.aload_n 1, 1) := by decide +kernel
theorem dX4_become_54 : decode cX4_become 54 = .ok (.getfield 23, 3) := by decide +kernel
theorem dX4_become_57 : decode cX4_become 57 = .ok (.putfield 23, 3) := by decide +kernel
theorem dX4_become_60 : decode cX4_become 60 = .ok (.return_, 1) := by decide +kernel
theorem dX4_parts_0 : decode cX4_parts 0 = .ok (.aload_n 0, 1) := by decide +kernel
theorem dX4_parts_1 : decode cX4_parts 1 = .ok (.getfield 16, 3) := by decide +kernel
theorem dX4_parts_4 : decode cX4_parts 4 = .ok (.ireturn, 1) := by decide +kernel
theorem dX4_isFull_0 : decode cX4_isFull 0 = .ok (.aload_n 0, 1) := by decide +kernel
theorem dX4_isFull_1 : decode cX4_isFull 1 = .ok (.getfield 16, 3) := by decide +kernel
theorem dX4_isFull_4 : decode cX4_isFull 4 = .ok (.bipush 8, 2) := by decide +kernel
theorem dX4_isFull_6 : decode cX4_isFull 6 = .ok (.if_icmp .lt 7, 3) := by decide +kernel
theorem dX4_isFull_9 : decode cX4_isFull 9 = .ok (.iconst 1, 1) := by decide +kernel
theorem dX4_isFull_10 : decode cX4_isFull 10 = .ok (.goto 4, 3) := by decide +kernel
theorem dX4_isFull_13 : decode cX4_isFull 13 = .ok (.iconst 0, 1) := by decide +kernel
theorem dX4_isFull_14 : decode cX4_isFull 14 = .ok (.ireturn, 1) := by decide +kernel
theorem dX4_drop_0 : decode cX4_drop 0 = .ok (.aload_n 0, 1) := by decide +kernel
theorem dX4_drop_1 : decode cX4_drop 1 = .ok (.iconst 0, 1) := by decide +kernel
theorem dX4_drop_2 : decode cX4_drop 2 = .ok (.putfield 16, 3) := by decide +kernel
theorem dX4_drop_5 : decode cX4_drop 5 = .ok (.aload_n 0, 1) := by decide +kernel
theorem dX4_drop_6 : decode cX4_drop 6 = .ok (.iconst 0, 1) := by decide +kernel
theorem dX4_drop_7 : decode cX4_drop 7 = .ok (.putfield 20, 3) := by decide +kernel
theorem dX4_drop_10 : decode cX4_drop 10 = .ok (.aload_n 0, 1) := by decide +kernel
theorem dX4_drop_11 : decode cX4_drop 11 = .ok (.iconst 0, 1) := by decide +kernel
theorem dX4_drop_12 : decode cX4_drop 12 = .ok (.putfield 23, 3) := by decide +kernel
theorem dX4_drop_15 : decode cX4_drop 15 = .ok (.return_, 1) := by decide +kernel
theorem dX4_append_0 : decode cX4_append 0 = .ok (.aload_n 0, 1) := by decide +kernel
theorem dX4_append_1 : decode cX4_append 1 = .ok (.getfield 16, 3) := by decide +kernel
theorem dX4_append_4 : decode cX4_append 4 = .ok (.ifCond .lt 27, 3) := by decide +kernel
theorem dX4_append_7 : decode cX4_append 7 = .ok (.aload_n 0, 1) := by decide +kernel
theorem dX4_append_8 : decode cX4_append 8 = .ok (.getfield 16, 3) := by decide +kernel
theorem dX4_append_11 : decode cX4_append 11 = .ok (.aload_n 0, 1) := by decide +kernel
theorem dX4_append_12 : decode cX4_append 12 = .ok (.getfield 9, 3) := by decide +kernel
theorem dX4_append_15 : decode cX4_append 15 = .ok (.arraylength, 1) := by decide +kernel
theorem dX4_append_16 : decode cX4_append 16 = .ok (.if_icmp .ge 15, 3) := by decide +kernel
theorem dX4_append_19 : decode cX4_append 19 = .ok (.aload_n 0, 1) := by decide +kernel
theorem dX4_append_20 : decode cX4_append 20 = .ok (.getfield 16, 3) := by decide +kernel
theorem dX4_append_23 : decode cX4_append 23 = .ok (.aload_n 0, 1) := by decide +kernel
theorem dX4_append_24 : decode cX4_append 24 = .ok (.getfield 13, 3) := by decide +kernel
theorem dX4_append_27 : decode cX4_append 27 = .ok (.arraylength, 1) := by decide +kernel
theorem dX4_append_28 : decode cX4_append 28 = .ok (.if_icmp .lt 4, 3) := by decide +kernel
theorem dX4_append_31 : decode cX4_append 31 = .ok (.return_, 1) := by decide +kernel
theorem dX4_append_32 : decode cX4_append 32 = .ok (.aload_n 0, 1) := by decide +kernel
theorem dX4_append_33 : decode cX4_append 33 = .ok (.getfield 9, 3) := by decide +kernel
theorem dX4_append_36 : decode cX4_append 36 = .ok (.aload_n 0, 1) := by decide +kernel
theorem dX4_append_37 : decode cX4_append 37 = .ok (.getfield 16, 3) := by decide +kernel
theorem dX4_append_40 : decode cX4_append 40 = .ok (.iload_n 1, 1) := by decide +kernel
theorem dX4_append_41 : decode cX4_append 41 = .ok (.iastore, 1) := by decide +kernel
theorem dX4_append_42 : decode cX4_append 42 = .ok (.aload_n 0, 1) := by decide +kernel
theorem dX4_append_43 : decode cX4_append 43 = .ok (.getfield 13, 3) := by decide +kernel
theorem dX4_append_46 : decode cX4_append 46 = .ok (.aload_n 0, 1) := by decide +kernel
theorem dX4_append_47 : decode cX4_append 47 = .ok (.getfield 16, 3) := by decide +kernel
theorem dX4_append_50 : decode cX4_append 50 = .ok (.iload_n 2, 1) := by decide +kernel
theorem dX4_append_51 : decode cX4_append 51 = .ok (.iastore, 1) := by decide +kernel
theorem dX4_append_52 : decode cX4_append 52 = .ok (.aload_n 0, 1) := by decide +kernel
theorem dX4_append_53 : decode cX4_append 53 = .ok (.dup, 1) := by decide +kernel
theorem dX4_append_54 : decode cX4_append 54 = .ok (.getfield 16, 3) := by decide +kernel
theorem dX4_append_57 : decode cX4_append 57 = .ok (.iconst 1, 1) := by decide +kernel
theorem dX4_append_58 : decode cX4_append 58 = .ok (.iadd, 1) := by decide +kernel
theorem dX4_append_59 : decode cX4_append 59 = .ok (.putfield 16, 3) := by decide +kernel
theorem dX4_append_62 : decode cX4_append 62 = .ok (.aload_n 0, 1) := by decide +kernel
theorem dX4_append_63 : decode cX4_append 63 = .ok (.dup, 1) := by decide +kernel
theorem dX4_append_64 : decode cX4_append 64 = .ok (.getfield 20, 3) := by decide +kernel
theorem dX4_append_67 : decode cX4_append 67 = .ok (.iload_n 1, 1) := by decide +kernel
theorem dX4_append_68 : decode cX4_append 68 = .ok (.iadd, 1) := by decide +kernel
theorem dX4_append_69 : decode cX4_append 69 = .ok (.putfield 20, 3) := by decide +kernel
theorem dX4_append_72 : decode cX4_append 72 = .ok (.aload_n 0, 1) := by decide +kernel
theorem dX4_append_73 : decode cX4_append 73 = .ok (.dup, 1) := by decide +kernel
theorem dX4_append_74 : decode cX4_append 74 = .ok (.getfield 23, 3) := by decide +kernel
theorem dX4_append_77 : decode cX4_append 77 = .ok (.iload_n 2, 1) := by decide +kernel
theorem dX4_append_78 : decode cX4_append 78 = .ok (.iadd, 1) := by decide +kernel
theorem dX4_append_79 : decode cX4_append 79 = .ok (.putfield 23, 3) := by decide +kernel
theorem dX4_append_82 : decode cX4_append 82 = .ok (.return_, 1) := by decide +kernel
theorem dX4_period_0 : decode cX4_period 0 = .ok (.aload_n 0, 1) := by decide +kernel
theorem dX4_period_1 : decode cX4_period 1 = .ok (.getfield 20, 3) := by decide +kernel
theorem dX4_period_4 : decode cX4_period 4 = .ok (.aload_n 0, 1) := by decide +kernel
theorem dX4_period_5 : decode cX4_period 5 = .ok (.getfield 23, 3) := by decide +kernel
theorem dX4_period_8 : decode cX4_period 8 = .ok (.iadd, 1) := by decide +kernel
theorem dX4_period_9 : decode cX4_period 9 = .ok (.ireturn, 1) := by decide +kernel
theorem dX4_lightTicks_0 : decode cX4_lightTicks 0 = .ok (.aload_n 0, 1) := by decide +kernel
theorem dX4_lightTicks_1 : decode cX4_lightTicks 1 = .ok (.getfield 20, 3) := by decide +kernel
theorem dX4_lightTicks_4 : decode cX4_lightTicks 4 = .ok (.ireturn, 1) := by decide +kernel
set_option maxRecDepth 20000 in
theorem ggX4_share_X4_period : GoodIn wsX4_share wsX4_period := goodIn_r _ [6, 1, 7, 8, 9, 10, 11, 12] (by decide +kernel) (by decide +kernel)
set_option maxRecDepth 20000 in
theorem gX4_share_X4_period : GoodIn wsX4_share (wsV RX4 32 RX4 yX4_period wsX4_period) := goodIn_app (goodIn_of _ (by decide +kernel)) ggX4_share_X4_period
theorem dX4_share_0 : decode cX4_share 0 = .ok (.aload_n 0, 1) := by decide +kernel
theorem dX4_share_1 : decode cX4_share 1 = .ok (.invokevirtual 32, 3) := by decide +kernel
theorem dX4_share_4 : decode cX4_share 4 = .ok (.ifCond .ne 7, 3) := by decide +kernel
theorem dX4_share_7 : decode cX4_share 7 = .ok (.dconst 0, 1) := by decide +kernel
theorem dX4_share_8 : decode cX4_share 8 = .ok (.goto 14, 3) := by decide +kernel
theorem dX4_share_11 : decode cX4_share 11 = .ok (.aload_n 0, 1) := by decide +kernel
theorem dX4_share_12 : decode cX4_share 12 = .ok (.getfield 20, 3) := by decide +kernel
theorem dX4_share_15 : decode cX4_share 15 = .ok (.i2d, 1) := by decide +kernel
theorem dX4_share_16 : decode cX4_share 16 = .ok (.aload_n 0, 1) := by decide +kernel
theorem dX4_share_17 : decode cX4_share 17 = .ok (.invokevirtual 32, 3) := by decide +kernel
theorem dX4_share_20 : decode cX4_share 20 = .ok (.i2d, 1) := by decide +kernel
theorem dX4_share_21 : decode cX4_share 21 = .ok (.ddiv, 1) := by decide +kernel
theorem dX4_share_22 : decode cX4_share 22 = .ok (.dreturn, 1) := by decide +kernel
theorem dX4_kind_0 : decode cX4_kind 0 = .ok (.aload_n 0, 1) := by decide +kernel
theorem dX4_kind_1 : decode cX4_kind 1 = .ok (.getfield 23, 3) := by decide +kernel
theorem dX4_kind_4 : decode cX4_kind 4 = .ok (.ifCond .ne 5, 3) := by decide +kernel
theorem dX4_kind_7 : decode cX4_kind 7 = .ok (.iconst 0, 1) := by decide +kernel
theorem dX4_kind_8 : decode cX4_kind 8 = .ok (.ireturn, 1) := by decide +kernel
theorem dX4_kind_9 : decode cX4_kind 9 = .ok (.aload_n 0, 1) := by decide +kernel
theorem dX4_kind_10 : decode cX4_kind 10 = .ok (.getfield 16, 3) := by decide +kernel
theorem dX4_kind_13 : decode cX4_kind 13 = .ok (.iconst 1, 1) := by decide +kernel
theorem dX4_kind_14 : decode cX4_kind 14 = .ok (.if_icmp .ne 16, 3) := by decide +kernel
theorem dX4_kind_17 : decode cX4_kind 17 = .ok (.aload_n 0, 1) := by decide +kernel
theorem dX4_kind_18 : decode cX4_kind 18 = .ok (.getfield 20, 3) := by decide +kernel
theorem dX4_kind_21 : decode cX4_kind 21 = .ok (.aload_n 0, 1) := by decide +kernel
theorem dX4_kind_22 : decode cX4_kind 22 = .ok (.getfield 23, 3) := by decide +kernel
theorem dX4_kind_25 : decode cX4_kind 25 = .ok (.if_icmp .ne 5, 3) := by decide +kernel
theorem dX4_kind_28 : decode cX4_kind 28 = .ok (.iconst 1, 1) := by decide +kernel
theorem dX4_kind_29 : decode cX4_kind 29 = .ok (.ireturn, 1) := by decide +kernel
theorem dX4_kind_30 : decode cX4_kind 30 = .ok (.aload_n 0, 1) := by decide +kernel
theorem dX4_kind_31 : decode cX4_kind 31 = .ok (.getfield 23, 3) := by decide +kernel
theorem dX4_kind_34 : decode cX4_kind 34 = .ok (.aload_n 0, 1) := by decide +kernel
theorem dX4_kind_35 : decode cX4_kind 35 = .ok (.getfield 20, 3) := by decide +kernel
theorem dX4_kind_38 : decode cX4_kind 38 = .ok (.if_icmp .le 7, 3) := by decide +kernel
theorem dX4_kind_41 : decode cX4_kind 41 = .ok (.iconst 2, 1) := by decide +kernel
theorem dX4_kind_42 : decode cX4_kind 42 = .ok (.goto 4, 3) := by decide +kernel
theorem dX4_kind_45 : decode cX4_kind 45 = .ok (.iconst 3, 1) := by decide +kernel
theorem dX4_kind_46 : decode cX4_kind 46 = .ok (.ireturn, 1) := by decide +kernel
set_option maxRecDepth 20000 in
theorem ggX4_isLitAt_X4_period : GoodIn wsX4_isLitAt wsX4_period := goodIn_r _ [8, 9, 10, 11, 12, 13, 14, 15] (by decide +kernel) (by decide +kernel)
set_option maxRecDepth 20000 in
theorem gX4_isLitAt_X4_period : GoodIn wsX4_isLitAt (wsV RX4 32 RX4 yX4_period wsX4_period) := goodIn_app (goodIn_of _ (by decide +kernel)) ggX4_isLitAt_X4_period
theorem dX4_isLitAt_0 : decode cX4_isLitAt 0 = .ok (.aload_n 0, 1) := by decide +kernel
theorem dX4_isLitAt_1 : decode cX4_isLitAt 1 = .ok (.invokevirtual 32, 3) := by decide +kernel
theorem dX4_isLitAt_4 : decode cX4_isLitAt 4 = .ok (.istore_n 2, 1) := by decide +kernel
theorem dX4_isLitAt_5 : decode cX4_isLitAt 5 = .ok (.iload_n 2, 1) := by decide +kernel
theorem dX4_isLitAt_6 : decode cX4_isLitAt 6 = .ok (.iconst 1, 1) := by decide +kernel
theorem dX4_isLitAt_7 : decode cX4_isLitAt 7 = .ok (.if_icmp .ge 5, 3) := by decide +kernel
theorem dX4_isLitAt_10 : decode cX4_isLitAt 10 = .ok (.iconst 0, 1) := by decide +kernel
theorem dX4_isLitAt_11 : decode cX4_isLitAt 11 = .ok (.ireturn, 1) := by decide +kernel
theorem dX4_isLitAt_12 : decode cX4_isLitAt 12 = .ok (.iload_n 1, 1) := by decide +kernel
theorem dX4_isLitAt_13 : decode cX4_isLitAt 13 = .ok (.iload_n 2, 1) := by decide +kernel
theorem dX4_isLitAt_14 : decode cX4_isLitAt 14 = .ok (.irem, 1) := by decide +kernel
theorem dX4_isLitAt_15 : decode cX4_isLitAt 15 = .ok (.istore_n 3, 1) := by decide +kernel
theorem dX4_isLitAt_16 : decode cX4_isLitAt 16 = .ok (.iconst 0, 1) := by decide +kernel
theorem dX4_isLitAt_17 : decode cX4_isLitAt 17 = .ok (.istore 4, 2) := by decide +kernel
theorem dX4_isLitAt_19 : decode cX4_isLitAt 19 = .ok (.iload 4, 2) := by decide +kernel
theorem dX4_isLitAt_21 : decode cX4_isLitAt 21 = .ok (.aload_n 0, 1) := by decide +kernel
theorem dX4_isLitAt_22 : decode cX4_isLitAt 22 = .ok (.getfield 16, 3) := by decide +kernel
theorem dX4_isLitAt_25 : decode cX4_isLitAt 25 = .ok (.if_icmp .ge 66, 3) := by decide +kernel
theorem dX4_isLitAt_28 : decode cX4_isLitAt 28 = .ok (.iload 4, 2) := by decide +kernel
theorem dX4_isLitAt_30 : decode cX4_isLitAt 30 = .ok (.aload_n 0, 1) := by decide +kernel
theorem dX4_isLitAt_31 : decode cX4_isLitAt 31 = .ok (.getfield 9, 3) := by decide +kernel
theorem dX4_isLitAt_34 : decode cX4_isLitAt 34 = .ok (.arraylength, 1) := by decide +kernel
theorem dX4_isLitAt_35 : decode cX4_isLitAt 35 = .ok (.if_icmp .ge 56, 3) := by decide +kernel
theorem dX4_isLitAt_38 : decode cX4_isLitAt 38 = .ok (.iload 4, 2) := by decide +kernel
theorem dX4_isLitAt_40 : decode cX4_isLitAt 40 = .ok (.aload_n 0, 1) := by decide +kernel
theorem dX4_isLitAt_41 : decode cX4_isLitAt 41 = .ok (.getfield 13, 3) := by decide +kernel
theorem dX4_isLitAt_44 : decode cX4_isLitAt 44 = .ok (.arraylength, 1) := by decide +kernel
theorem dX4_isLitAt_45 : decode cX4_isLitAt 45 = .ok (.if_icmp .ge 46, 3) := by decide +kernel
theorem dX4_isLitAt_48 : decode cX4_isLitAt 48 = .ok (.iload_n 3, 1) := by decide +kernel
theorem dX4_isLitAt_49 : decode cX4_isLitAt 49 = .ok (.aload_n 0, 1) := by decide +kernel
theorem dX4_isLitAt_50 : decode cX4_isLitAt 50 = .ok (.getfield 9, 3) := by decide +kernel
theorem dX4_isLitAt_53 : decode cX4_isLitAt 53 = .ok (.iload 4, 2) := by decide +kernel
theorem dX4_isLitAt_55 : decode cX4_isLitAt 55 = .ok (.iaload, 1) := by decide +kernel
theorem dX4_isLitAt_56 : decode cX4_isLitAt 56 = .ok (.if_icmp .ge 5, 3) := by decide +kernel
theorem dX4_isLitAt_59 : decode cX4_isLitAt 59 = .ok (.iconst 1, 1) := by decide +kernel
theorem dX4_isLitAt_60 : decode cX4_isLitAt 60 = .ok (.ireturn, 1) := by decide +kernel
theorem dX4_isLitAt_61 : decode cX4_isLitAt 61 = .ok (.iload_n 3, 1) := by decide +kernel
theorem dX4_isLitAt_62 : decode cX4_isLitAt 62 = .ok (.aload_n 0, 1) := by decide +kernel
theorem dX4_isLitAt_63 : decode cX4_isLitAt 63 = .ok (.getfield 9, 3) := by decide +kernel
theorem dX4_isLitAt_66 : decode cX4_isLitAt 66 = .ok (.iload 4, 2) := by decide +kernel
theorem dX4_isLitAt_68 : decode cX4_isLitAt 68 = .ok (.iaload, 1) := by decide +kernel
theorem dX4_isLitAt_69 : decode cX4_isLitAt 69 = .ok (.aload_n 0, 1) := by decide +kernel
theorem dX4_isLitAt_70 : decode cX4_isLitAt 70 = .ok (.getfield 13, 3) := by decide +kernel
theorem dX4_isLitAt_73 : decode cX4_isLitAt 73 = .ok (.iload 4, 2) := by decide +kernel
theorem dX4_isLitAt_75 : decode cX4_isLitAt 75 = .ok (.iaload, 1) := by decide +kernel
theorem dX4_isLitAt_76 : decode cX4_isLitAt 76 = .ok (.iadd, 1) := by decide +kernel
theorem dX4_isLitAt_77 : decode cX4_isLitAt 77 = .ok (.isub, 1) := by decide +kernel
theorem dX4_isLitAt_78 : decode cX4_isLitAt 78 = .ok (.istore_n 3, 1) := by decide +kernel
theorem dX4_isLitAt_79 : decode cX4_isLitAt 79 = .ok (.iload_n 3, 1) := by decide +kernel
theorem dX4_isLitAt_80 : decode cX4_isLitAt 80 = .ok (.ifCond .ge 5, 3) := by decide +kernel
theorem dX4_isLitAt_83 : decode cX4_isLitAt 83 = .ok (.iconst 0, 1) := by decide +kernel
theorem dX4_isLitAt_84 : decode cX4_isLitAt 84 = .ok (.ireturn, 1) := by decide +kernel
theorem dX4_isLitAt_85 : decode cX4_isLitAt 85 = .ok (.iinc 4 1, 3) := by decide +kernel
theorem dX4_isLitAt_88 : decode cX4_isLitAt 88 = .ok (.goto (-69), 3) := by decide +kernel
theorem dX4_isLitAt_91 : decode cX4_isLitAt 91 = .ok (.iconst 0, 1) := by decide +kernel
theorem dX4_isLitAt_92 : decode cX4_isLitAt 92 = .ok (.ireturn, 1) := by decide +kernel
theorem dX4_isLike_0 : decode cX4_isLike 0 = .ok (.aload_n 0, 1) := by decide +kernel
theorem dX4_isLike_1 : decode cX4_isLike 1 = .ok (.getfield 16, 3) := by decide +kernel
theorem dX4_isLike_4 : decode cX4_isLike 4 = .ok (.aload_n 1, 1) := by decide +kernel
theorem dX4_isLike_5 : decode cX4_isLike 5 = .ok (.getfield 16, 3) := by decide +kernel
theorem dX4_isLike_8 : decode cX4_isLike 8 = .ok (.if_icmp .eq 5, 3) := by decide +kernel
theorem dX4_isLike_11 : decode cX4_isLike 11 = .ok (.iconst 0, 1) := by decide +kernel
theorem dX4_isLike_12 : decode cX4_isLike 12 = .ok (.ireturn, 1) := by decide +kernel
theorem dX4_isLike_13 : decode cX4_isLike 13 = .ok (.iconst 0, 1) := by decide +kernel
theorem dX4_isLike_14 : decode cX4_isLike 14 = .ok (.istore_n 2, 1) := by decide +kernel
theorem dX4_isLike_15 : decode cX4_isLike 15 = .ok (.iload_n 2, 1) := by decide +kernel
theorem dX4_isLike_16 : decode cX4_isLike 16 = .ok (.aload_n 0, 1) := by decide +kernel
theorem dX4_isLike_17 : decode cX4_isLike 17 = .ok (.getfield 16, 3) := by decide +kernel
theorem dX4_isLike_20 : decode cX4_isLike 20 = .ok (.if_icmp .ge 47, 3) := by decide +kernel
theorem dX4_isLike_23 : decode cX4_isLike 23 = .ok (.iload_n 2, 1) := by decide +kernel
theorem dX4_isLike_24 : decode cX4_isLike 24 = .ok (.bipush 8, 2) := by decide +kernel
theorem dX4_isLike_26 : decode cX4_isLike 26 = .ok (.if_icmp .ge 41, 3) := by decide +kernel
theorem dX4_isLike_29 : decode cX4_isLike 29 = .ok (.aload_n 0, 1) := by decide +kernel
theorem dX4_isLike_30 : decode cX4_isLike 30 = .ok (.getfield 9, 3) := by decide +kernel
theorem dX4_isLike_33 : decode cX4_isLike 33 = .ok (.iload_n 2, 1) := by decide +kernel
theorem dX4_isLike_34 : decode cX4_isLike 34 = .ok (.iaload, 1) := by decide +kernel
theorem dX4_isLike_35 : decode cX4_isLike 35 = .ok (.aload_n 1, 1) := by decide +kernel
theorem dX4_isLike_36 : decode cX4_isLike 36 = .ok (.getfield 9, 3) := by decide +kernel
theorem dX4_isLike_39 : decode cX4_isLike 39 = .ok (.iload_n 2, 1) := by decide +kernel
theorem dX4_isLike_40 : decode cX4_isLike 40 = .ok (.iaload, 1) := by decide +kernel
theorem dX4_isLike_41 : decode cX4_isLike 41 = .ok (.if_icmp .ne 18, 3) := by decide +kernel
theorem dX4_isLike_44 : decode cX4_isLike 44 = .ok (.aload_n 0, 1) := by decide +kernel
theorem dX4_isLike_45 : decode cX4_isLike 45 = .ok (.getfield 13, 3) := by decide +kernel
theorem dX4_isLike_48 : decode cX4_isLike 48 = .ok (.iload_n 2, 1) := by decide +kernel
theorem dX4_isLike_49 : decode cX4_isLike 49 = .ok (.iaload, 1) := by decide +kernel
theorem dX4_isLike_50 : decode cX4_isLike 50 = .ok (.aload_n 1, 1) := by decide +kernel
theorem dX4_isLike_51 : decode cX4_isLike 51 = .ok (.getfield 13, 3) := by decide +kernel
theorem dX4_isLike_54 : decode cX4_isLike 54 = .ok (.iload_n 2, 1) := by decide +kernel
theorem dX4_isLike_55 : decode cX4_isLike 55 = .ok (.iaload, 1) := by decide +kernel
theorem dX4_isLike_56 : decode cX4_isLike 56 = .ok (.if_icmp .eq 5, 3) := by decide +kernel
theorem dX4_isLike_59 : decode cX4_isLike 59 = .ok (.iconst 0, 1) := by decide +kernel
theorem dX4_isLike_60 : decode cX4_isLike 60 = .ok (.ireturn, 1) := by decide +kernel
theorem dX4_isLike_61 : decode cX4_isLike 61 = .ok (.iinc 2 1, 3) := by decide +kernel
theorem dX4_isLike_64 : decode cX4_isLike 64 = .ok (.goto (-49), 3) := by decide +kernel
theorem dX4_isLike_67 : decode cX4_isLike 67 = .ok (.iconst 1, 1) := by decide +kernel
theorem dX4_isLike_68 : decode cX4_isLike 68 = .ok (.ireturn, 1) := by decide +kernel
set_option maxRecDepth 20000 in
theorem ggX5_init_X7_init : GoodIn wsX5_init wsX7_init := goodIn_r _ [9, 10, 2, 3, 11, 12, 13, 14, 15, 16, 17, 18, 19, 20, 21, 22, 23, 24, 25, 26, 27, 28, 29, 30, 31, 32, 33, 34, 35, 36, 37, 38, 39, 40, 41, 42, 43, 44, 45, 46, 47, 48, 49, 50, 51, 52, 53, 54, 55, 56, 57, 58, 70, 62, 63, 64, 65, 66, 67, 68, 69, 71, 72, 73, 74, 75, 76, 77, 78, 79, 80, 81, 82, 83, 84, 85, 86, 87, 88, 89] (by decide +kernel) (by decide +kernel)
set_option maxRecDepth 20000 in
theorem gX5_init_X7_init_n15 : GoodIn wsX5_init (wsX7_init) := ggX5_init_X7_init
theorem dX5_init_0 : decode cX5_init 0 = .ok (.aload_n 0, 1) := by decide +kernel
theorem dX5_init_1 : decode cX5_init 1 = .ok (.invokespecial 1, 3) := by decide +kernel
theorem dX5_init_4 : decode cX5_init 4 = .ok (.aload_n 0, 1) := by decide +kernel
theorem dX5_init_5 : decode cX5_init 5 = .ok (.iconst 5, 1) := by decide +kernel
theorem dX5_init_6 : decode cX5_init 6 = .ok (.anewarray 9, 3) := by decide +kernel
theorem dX5_init_9 : decode cX5_init 9 = .ok (.putfield 11, 3) := by decide +kernel
theorem dX5_init_12 : decode cX5_init 12 = .ok (.iconst 0, 1) := by decide +kernel
theorem dX5_init_13 : decode cX5_init 13 = .ok (.istore_n 1, 1) := by decide +kernel
theorem dX5_init_14 : decode cX5_init 14 = .ok (.iload_n 1, 1) := by decide +kernel
theorem dX5_init_15 : decode cX5_init 15 = .ok (.aload_n 0, 1) := by decide +kernel
theorem dX5_init_16 : decode cX5_init 16 = .ok (.getfield 11, 3) := by decide +kernel
theorem dX5_init_19 : decode cX5_init 19 = .ok (.arraylength, 1) := by decide +kernel
theorem dX5_init_20 : decode cX5_init 20 = .ok (.if_icmp .ge 22, 3) := by decide +kernel
theorem dX5_init_23 : decode cX5_init 23 = .ok (.aload_n 0, 1) := by decide +kernel
theorem dX5_init_24 : decode cX5_init 24 = .ok (.getfield 11, 3) := by decide +kernel
theorem dX5_init_27 : decode cX5_init 27 = .ok (.iload_n 1, 1) := by decide +kernel
theorem dX5_init_28 : decode cX5_init 28 = .ok (.new 9, 3) := by decide +kernel
theorem dX5_init_31 : decode cX5_init 31 = .ok (.dup, 1) := by decide +kernel
theorem dX5_init_32 : decode cX5_init 32 = .ok (.invokespecial 15, 3) := by decide +kernel
theorem dX5_init_35 : decode cX5_init 35 = .ok (.aastore, 1) := by decide +kernel
theorem dX5_init_36 : decode cX5_init 36 = .ok (.iinc 1 1, 3) := by decide +kernel
theorem dX5_init_39 : decode cX5_init 39 = .ok (.goto (-25), 3) := by decide +kernel
theorem dX5_init_42 : decode cX5_init 42 = .ok (.return_, 1) := by decide +kernel
set_option maxRecDepth 20000 in
theorem ggX5_keep_X7_become : GoodIn wsX5_keep wsX7_become := goodIn_r _ [8, 9, 10, 11, 12, 13, 14, 15, 16, 17, 18, 19, 20, 21, 22, 23, 24, 25, 26, 27, 28, 29, 30, 31, 32, 33, 34, 35, 36, 37, 38, 39, 40, 41, 42, 43, 44, 45, 46, 47, 48, 49, 50, 51, 52, 53, 54, 55, 56, 57, 58, 59, 60, 61, 62, 63, 64, 68, 69, 70, 71, 72, 73, 74, 75, 76, 77, 78, 79, 80, 81, 82, 83, 84, 85, 86, 87, 88, 89, 90, 91, 92, 93, 94, 95] (by decide +kernel) (by decide +kernel)
set_option maxRecDepth 20000 in
theorem gX5_keep_X7_become : GoodIn wsX5_keep (wsV RX5 20 RX7 yX7_become wsX7_become) := goodIn_app (goodIn_of _ (by decide +kernel)) ggX5_keep_X7_become
theorem dX5_keep_0 : decode cX5_keep 0 = .ok (.aload_n 0, 1) := by decide +kernel
theorem dX5_keep_1 : decode cX5_keep 1 = .ok (.getfield 16, 3) := by decide +kernel
theorem dX5_keep_4 : decode cX5_keep 4 = .ok (.ifCond .lt 27, 3) := by decide +kernel
theorem dX5_keep_7 : decode cX5_keep 7 = .ok (.aload_n 0, 1) := by decide +kernel
theorem dX5_keep_8 : decode cX5_keep 8 = .ok (.getfield 16, 3) := by decide +kernel
theorem dX5_keep_11 : decode cX5_keep 11 = .ok (.aload_n 0, 1) := by decide +kernel
theorem dX5_keep_12 : decode cX5_keep 12 = .ok (.getfield 11, 3) := by decide +kernel
theorem dX5_keep_15 : decode cX5_keep 15 = .ok (.arraylength, 1) := by decide +kernel
theorem dX5_keep_16 : decode cX5_keep 16 = .ok (.if_icmp .ge 15, 3) := by decide +kernel
theorem dX5_keep_19 : decode cX5_keep 19 = .ok (.aload_n 0, 1) := by decide +kernel
theorem dX5_keep_20 : decode cX5_keep 20 = .ok (.getfield 11, 3) := by decide +kernel
theorem dX5_keep_23 : decode cX5_keep 23 = .ok (.aload_n 0, 1) := by decide +kernel
theorem dX5_keep_24 : decode cX5_keep 24 = .ok (.getfield 16, 3) := by decide +kernel
theorem dX5_keep_27 : decode cX5_keep 27 = .ok (.aaload, 1) := by decide +kernel
theorem dX5_keep_28 : decode cX5_keep 28 = .ok (.ifnonnull 4, 3) := by decide +kernel
theorem dX5_keep_31 : decode cX5_keep 31 = .ok (.return_, 1) := by decide +kernel
theorem dX5_keep_32 : decode cX5_keep 32 = .ok (.aload_n 0, 1) := by decide +kernel
theorem dX5_keep_33 : decode cX5_keep 33 = .ok (.getfield 11, 3) := by decide +kernel
theorem dX5_keep_36 : decode cX5_keep 36 = .ok (.aload_n 0, 1) := by decide +kernel
theorem dX5_keep_37 : decode cX5_keep 37 = .ok (.getfield 16, 3) := by decide +kernel
theorem dX5_keep_40 : decode cX5_keep 40 = .ok (.aaload, 1) := by decide +kernel
theorem dX5_keep_41 : decode cX5_keep 41 = .ok (.aload_n 1, 1) := by decide +kernel
theorem dX5_keep_42 : decode cX5_keep 42 = .ok (.invokevirtual 20, 3) := by decide +kernel
theorem dX5_keep_45 : decode cX5_keep 45 = .ok (.aload_n 0, 1) := by decide +kernel
theorem dX5_keep_46 : decode cX5_keep 46 = .ok (.aload_n 0, 1) := by decide +kernel
theorem dX5_keep_47 : decode cX5_keep 47 = .ok (.getfield 16, 3) := by decide +kernel
theorem dX5_keep_50 : decode cX5_keep 50 = .ok (.iconst 1, 1) := by decide +kernel
theorem dX5_keep_51 : decode cX5_keep 51 = .ok (.iadd, 1) := by decide +kernel
theorem dX5_keep_52 : decode cX5_keep 52 = .ok (.aload_n 0, 1) := by decide +kernel
theorem dX5_keep_53 : decode cX5_keep 53 = .ok (.getfield 11, 3) := by decide +kernel
theorem dX5_keep_56 : decode cX5_keep 56 = .ok (.arraylength, 1) := by decide +kernel
theorem dX5_keep_57 : decode cX5_keep 57 = .ok (.if_icmp .ge 12, 3) := by decide +kernel
theorem dX5_keep_60 : decode cX5_keep 60 = .ok (.aload_n 0, 1) := by decide +kernel
theorem dX5_keep_61 : decode cX5_keep 61 = .ok (.getfield 16, 3) := by decide +kernel
theorem dX5_keep_64 : decode cX5_keep 64 = .ok (.iconst 1, 1) := by decide +kernel
theorem dX5_keep_65 : decode cX5_keep 65 = .ok (.iadd, 1) := by decide +kernel
theorem dX5_keep_66 : decode cX5_keep 66 = .ok (.goto 4, 3) := by decide +kernel
theorem dX5_keep_69 : decode cX5_keep 69 = .ok (.iconst 0, 1) := by decide +kernel
theorem dX5_keep_70 : decode cX5_keep 70 = .ok (.putfield 16, 3) := by decide +kernel
theorem dX5_keep_73 : decode cX5_keep 73 = .ok (.aload_n 0, 1) := by decide +kernel
theorem dX5_keep_74 : decode cX5_keep 74 = .ok (.getfield 24, 3) := by decide +kernel
theorem dX5_keep_77 : decode cX5_keep 77 = .ok (.iconst 5, 1) := by decide +kernel
theorem dX5_keep_78 : decode cX5_keep 78 = .ok (.if_icmp .ge 13, 3) := by decide +kernel
theorem dX5_keep_81 : decode cX5_keep 81 = .ok (.aload_n 0, 1) := by decide +kernel
theorem dX5_keep_82 : decode cX5_keep 82 = .ok (.dup, 1) := by decide +kernel
theorem dX5_keep_83 : decode cX5_keep 83 = .ok (.getfield 24, 3) := by decide +kernel
theorem dX5_keep_86 : decode cX5_keep 86 = .ok (.iconst 1, 1) := by decide +kernel
theorem dX5_keep_87 : decode cX5_keep 87 = .ok (.iadd, 1) := by decide +kernel
theorem dX5_keep_88 : decode cX5_keep 88 = .ok (.putfield 24, 3) := by decide +kernel
theorem dX5_keep_91 : decode cX5_keep 91 = .ok (.return_, 1) := by decide +kernel
set_option maxRecDepth 20000 in
theorem ggX5_giveBack_X7_become : GoodIn wsX5_giveBack wsX7_become := goodIn_r _ [8, 9, 10, 11, 12, 13, 14, 15, 16, 17, 18, 19, 20, 21, 22, 23, 24, 25, 26, 27, 28, 29, 30, 31, 32, 33, 34, 35, 36, 37, 38, 39, 40, 41, 42, 43, 44, 45, 46, 47, 48, 49, 50, 51, 52, 53, 54, 55, 56, 57, 58, 59, 60, 61, 62, 63, 64, 68, 69, 70, 71, 72, 73, 74, 75, 76, 77, 78, 79, 80, 81, 82, 83, 84, 85, 86, 87, 88, 89, 90, 91, 92, 93, 94, 95] (by decide +kernel) (by decide +kernel)
set_option maxRecDepth 20000 in
theorem gX5_giveBack_X7_become : GoodIn wsX5_giveBack (wsV RX5 20 RX7 yX7_become wsX7_become) := goodIn_app (goodIn_of _ (by decide +kernel)) ggX5_giveBack_X7_become
theorem dX5_giveBack_0 : decode cX5_giveBack 0 = .ok (.aload_n 0, 1) := by decide +kernel
theorem dX5_giveBack_1 : decode cX5_giveBack 1 = .ok (.getfield 16, 3) := by decide +kernel
theorem dX5_giveBack_4 : decode cX5_giveBack 4 = .ok (.ifCond .le 12, 3) := by decide +kernel
theorem dX5_giveBack_7 : decode cX5_giveBack 7 = .ok (.aload_n 0, 1) := by decide +kernel
theorem dX5_giveBack_8 : decode cX5_giveBack 8 = .ok (.getfield 16, 3) := by decide +kernel
theorem dX5_giveBack_11 : decode cX5_giveBack 11 = .ok (.iconst 1, 1) := by decide +kernel
theorem dX5_giveBack_12 : decode cX5_giveBack 12 = .ok (.isub, 1) := by decide +kernel
theorem dX5_giveBack_13 : decode cX5_giveBack 13 = .ok (.goto 10, 3) := by decide +kernel
theorem dX5_giveBack_16 : decode cX5_giveBack 16 = .ok (.aload_n 0, 1) := by decide +kernel
theorem dX5_giveBack_17 : decode cX5_giveBack 17 = .ok (.getfield 11, 3) := by decide +kernel
theorem dX5_giveBack_20 : decode cX5_giveBack 20 = .ok (.arraylength, 1) := by decide +kernel
theorem dX5_giveBack_21 : decode cX5_giveBack 21 = .ok (.iconst 1, 1) := by decide +kernel
theorem dX5_giveBack_22 : decode cX5_giveBack 22 = .ok (.isub, 1) := by decide +kernel
theorem dX5_giveBack_23 : decode cX5_giveBack 23 = .ok (.istore_n 2, 1) := by decide +kernel
theorem dX5_giveBack_24 : decode cX5_giveBack 24 = .ok (.aload_n 0, 1) := by decide +kernel
theorem dX5_giveBack_25 : decode cX5_giveBack 25 = .ok (.getfield 24, 3) := by decide +kernel
theorem dX5_giveBack_28 : decode cX5_giveBack 28 = .ok (.iconst 1, 1) := by decide +kernel
theorem dX5_giveBack_29 : decode cX5_giveBack 29 = .ok (.if_icmp .lt 25, 3) := by decide +kernel
theorem dX5_giveBack_32 : decode cX5_giveBack 32 = .ok (.iload_n 2, 1) := by decide +kernel
theorem dX5_giveBack_33 : decode cX5_giveBack 33 = .ok (.ifCond .lt 21, 3) := by decide +kernel
theorem dX5_giveBack_36 : decode cX5_giveBack 36 = .ok (.iload_n 2, 1) := by decide +kernel
theorem dX5_giveBack_37 : decode cX5_giveBack 37 = .ok (.aload_n 0, 1) := by decide +kernel
theorem dX5_giveBack_38 : decode cX5_giveBack 38 = .ok (.getfield 11, 3) := by decide +kernel
theorem dX5_giveBack_41 : decode cX5_giveBack 41 = .ok (.arraylength, 1) := by decide +kernel
theorem dX5_giveBack_42 : decode cX5_giveBack 42 = .ok (.if_icmp .ge 12, 3) := by decide +kernel
theorem dX5_giveBack_45 : decode cX5_giveBack 45 = .ok (.aload_n 0, 1) := by decide +kernel
theorem dX5_giveBack_46 : decode cX5_giveBack 46 = .ok (.getfield 11, 3) := by decide +kernel
theorem dX5_giveBack_49 : decode cX5_giveBack 49 = .ok (.iload_n 2, 1) := by decide +kernel
theorem dX5_giveBack_50 : decode cX5_giveBack 50 = .ok (.aaload, 1) := by decide +kernel
theorem dX5_giveBack_51 : decode cX5_giveBack 51 = .ok (.ifnonnull 4, 3) := by decide +kernel
theorem dX5_giveBack_54 : decode cX5_giveBack 54 = .ok (.return_, 1) := by decide +kernel
theorem dX5_giveBack_55 : decode cX5_giveBack 55 = .ok (.aload_n 1, 1) := by decide +kernel
theorem dX5_giveBack_56 : decode cX5_giveBack 56 = .ok (.aload_n 0, 1) := by decide +kernel
theorem dX5_giveBack_57 : decode cX5_giveBack 57 = .ok (.getfield 11, 3) := by decide +kernel
theorem dX5_giveBack_60 : decode cX5_giveBack 60 = .ok (.iload_n 2, 1) := by decide +kernel
theorem dX5_giveBack_61 : decode cX5_giveBack 61 = .ok (.aaload, 1) := by decide +kernel
theorem dX5_giveBack_62 : decode cX5_giveBack 62 = .ok (.invokevirtual 20, 3) := by decide +kernel
theorem dX5_giveBack_65 : decode cX5_giveBack 65 = .ok (.aload_n 0, 1) := by decide +kernel
theorem dX5_giveBack_66 : decode cX5_giveBack 66 = .ok (.iload_n 2, 1) := by decide +kernel
theorem dX5_giveBack_67 : decode cX5_giveBack 67 = .ok (.putfield 16, 3) := by decide +kernel
theorem dX5_giveBack_70 : decode cX5_giveBack 70 = .ok (.aload_n 0, 1) := by decide +kernel
theorem dX5_giveBack_71 : decode cX5_giveBack 71 = .ok (.dup, 1) := by decide +kernel
theorem dX5_giveBack_72 : decode cX5_giveBack 72 = .ok (.getfield 24, 3) := by decide +kernel
theorem dX5_giveBack_75 : decode cX5_giveBack 75 = .ok (.iconst 1, 1) := by decide +kernel
theorem dX5_giveBack_76 : decode cX5_giveBack 76 = .ok (.isub, 1) := by decide +kernel
theorem dX5_giveBack_77 : decode cX5_giveBack 77 = .ok (.putfield 24, 3) := by decide +kernel
theorem dX5_giveBack_80 : decode cX5_giveBack 80 = .ok (.return_, 1) := by decide +kernel
theorem dX6_init_0 : decode cX6_init 0 = .ok (.aload_n 0, 1) := by decide +kernel
theorem dX6_init_1 : decode cX6_init 1 = .ok (.invokespecial 3, 3) := by decide +kernel
theorem dX6_init_4 : decode cX6_init 4 = .ok (.aload_n 0, 1) := by decide +kernel
theorem dX6_init_5 : decode cX6_init 5 = .ok (.bipush 40, 2) := by decide +kernel
theorem dX6_init_7 : decode cX6_init 7 = .ok (.newarray .int, 2) := by decide +kernel
theorem dX6_init_9 : decode cX6_init 9 = .ok (.putfield 11, 3) := by decide +kernel
theorem dX6_init_12 : decode cX6_init 12 = .ok (.aload_n 0, 1) := by decide +kernel
theorem dX6_init_13 : decode cX6_init 13 = .ok (.bipush 40, 2) := by decide +kernel
theorem dX6_init_15 : decode cX6_init 15 = .ok (.newarray .int, 2) := by decide +kernel
theorem dX6_init_17 : decode cX6_init 17 = .ok (.putfield 15, 3) := by decide +kernel
theorem dX6_init_20 : decode cX6_init 20 = .ok (.aload_n 0, 1) := by decide +kernel
theorem dX6_init_21 : decode cX6_init 21 = .ok (.bipush 40, 2) := by decide +kernel
theorem dX6_init_23 : decode cX6_init 23 = .ok (.newarray .int, 2) := by decide +kernel
theorem dX6_init_25 : decode cX6_init 25 = .ok (.putfield 18, 3) := by decide +kernel
theorem dX6_init_28 : decode cX6_init 28 = .ok (.aload_n 0, 1) := by decide +kernel
theorem dX6_init_29 : decode cX6_init 29 = .ok (.bipush 40, 2) := by decide +kernel
theorem dX6_init_31 : decode cX6_init 31 = .ok (.newarray .int, 2) := by decide +kernel
theorem dX6_init_33 : decode cX6_init 33 = .ok (.putfield 21, 3) := by decide +kernel
theorem dX6_init_36 : decode cX6_init 36 = .ok (.aload_n 0, 1) := by decide +kernel
theorem dX6_init_37 : decode cX6_init 37 = .ok (.iconst 4, 1) := by decide +kernel
theorem dX6_init_38 : decode cX6_init 38 = .ok (.newarray .int, 2) := by decide +kernel
theorem dX6_init_40 : decode cX6_init 40 = .ok (.putfield 24, 3) := by decide +kernel
theorem dX6_init_43 : decode cX6_init 43 = .ok (.return_, 1) := by decide +kernel
theorem dX6_become_0 : decode cX6_become 0 = .ok (.aload_n 1, 1) := by decide +kernel
theorem dX6_become_1 : decode cX6_become 1 = .ok (.getfield 11, 3) := by decide +kernel
theorem dX6_become_4 : decode cX6_become 4 = .ok (.iconst 0, 1) := by decide +kernel
theorem dX6_become_5 : decode cX6_become 5 = .ok (.aload_n 0, 1) := by decide +kernel
theorem dX6_become_6 : decode cX6_become 6 = .ok (.getfield 11, 3) := by decide +kernel
theorem dX6_become_9 : decode cX6_become 9 = .ok (.iconst 0, 1) := by decide +kernel
theorem dX6_become_10 : decode cX6_become 10 = .ok (.bipush 40, 2) := by decide +kernel
theorem dX6_become_12 : decode cX6_become 12 = .ok (.invokestatic 27, 3) := by decide +kernel
theorem dX6_become_15 : decode cX6_become 15 = .ok (.aload_n 1, 1) := by decide +kernel
theorem dX6_become_16 : decode cX6_become 16 = .ok (.getfield 15, 3) := by decide +kernel
theorem dX6_become_19 : decode cX6_become 19 = .ok (.iconst 0, 1) := by decide +kernel
theorem dX6_become_20 : decode cX6_become 20 = .ok (.aload_n 0, 1) := by decide +kernel
theorem dX6_become_21 : decode cX6_become 21 = .ok (.getfield 15, 3) := by decide +kernel
theorem dX6_become_24 : decode cX6_become 24 = .ok (.iconst 0, 1) := by decide +kernel
theorem dX6_become_25 : decode cX6_become 25 = .ok (.bipush 40, 2) := by decide +kernel
theorem dX6_become_27 : decode cX6_become 27 = .ok (.invokestatic 27, 3) := by decide +kernel
theorem dX6_become_30 : decode cX6_become 30 = .ok (.aload_n 1, 1) := by decide +kernel
theorem dX6_become_31 : decode cX6_become 31 = .ok (.getfield 18, 3) := by decide +kernel
theorem dX6_become_34 : decode cX6_become 34 = .ok (.iconst 0, 1) := by decide +kernel
theorem dX6_become_35 : decode cX6_become 35 = .ok (.aload_n 0, 1) := by decide +kernel
theorem dX6_become_36 : decode cX6_become 36 = .ok (.getfield 18, 3) := by decide +kernel
theorem dX6_become_39 : decode cX6_become 39 = .ok (.iconst 0, 1) := by decide +kernel
theorem dX6_become_40 : decode cX6_become 40 = .ok (.bipush 40, 2) := by decide +kernel
theorem dX6_become_42 : decode cX6_become 42 = .ok (.invokestatic 27, 3) := by decide +kernel
theorem dX6_become_45 : decode cX6_become 45 = .ok (.aload_n 1, 1) := by decide +kernel
theorem dX6_become_46 : decode cX6_become 46 = .ok (.getfield 21, 3) := by decide +kernel
theorem dX6_become_49 : decode cX6_become 49 = .ok (.iconst 0, 1) := by decide +kernel
theorem dX6_become_50 : decode cX6_become 50 = .ok (.aload_n 0, 1) := by decide +kernel
theorem dX6_become_51 : decode cX6_become 51 = .ok (.getfield 21, 3) := by decide +kernel
theorem dX6_become_54 : decode cX6_become 54 = .ok (.iconst 0, 1) := by decide +kernel
theorem dX6_become_55 : decode cX6_become 55 = .ok (.bipush 40, 2) := by decide +kernel
theorem dX6_become_57 : decode cX6_become 57 = .ok (.invokestatic 27, 3) := by decide +kernel
theorem dX6_become_60 : decode cX6_become 60 = .ok (.aload_n 1, 1) := by decide +kernel
theorem dX6_become_61 : decode cX6_become 61 = .ok (.getfield 24, 3) := by decide +kernel
theorem dX6_become_64 : decode cX6_become 64 = .ok (.iconst 0, 1) := by decide +kernel
theorem dX6_become_65 : decode cX6_become 65 = .ok (.aload_n 0, 1) := by decide +kernel
theorem dX6_become_66 : decode cX6_become 66 = .ok (.getfield 24, 3) := by decide +kernel
theorem dX6_become_69 : decode cX6_become 69 = .ok (.iconst 0, 1) := by decide +kernel
theorem dX6_become_70 : decode cX6_become 70 = .ok (.iconst 4, 1) := by decide +kernel
theorem dX6_become_71 : decode cX6_become 71 = .ok (.invokestatic 27, 3) := by decide +kernel
theorem dX6_become_74 : decode cX6_become 74 = .ok (.aload_n 0, 1) := by decide +kernel
theorem dX6_become_75 : decode cX6_become 75 = .ok (.aload_n 1, 1) := by decide +kernel
theorem dX6_become_76 : decode cX6_become 76 = .ok (.getfield 33, 3) := by decide +kernel
theorem dX6_become_79 : decode cX6_become 79 = .ok (.putfield 33, 3) := by decide +kernel
theorem dX6_become_82 : decode cX6_become 82 = .ok (.aload_n 0, 1) := by decide +kernel
theorem dX6_become_83 : decode cX6_become 83 = .ok (.aload_n 1, 1) := by decide +kernel
theorem dX6_become_84 : decode cX6_become 84 = .ok (.getfield 37, 3) := by decide +kernel
theorem dX6_become_87 : decode cX6_become 87 = .ok (.putfield 37, 3) := by decide +kernel
theorem dX6_become_90 : decode cX6_become 90 = .ok (.return_, 1) := by decide +kernel
theorem dX6_beginPassage_0 : decode cX6_beginPassage 0 = .ok (.aload_n 0, 1) := by decide +kernel
theorem dX6_beginPassage_1 : decode cX6_beginPassage 1 = .ok (.dup, 1) := by decide +kernel
theorem dX6_beginPassage_2 : decode cX6_beginPassage 2 = .ok (.getfield 33, 3) := by decide +kernel
theorem dX6_beginPassage_5 : decode cX6_beginPassage 5 = .ok (.iconst 1, 1) := by decide +kernel
theorem dX6_beginPassage_6 : decode cX6_beginPassage 6 = .ok (.iadd, 1) := by decide +kernel
theorem dX6_beginPassage_7 : decode cX6_beginPassage 7 = .ok (.putfield 33, 3) := by decide +kernel
theorem dX6_beginPassage_10 : decode cX6_beginPassage 10 = .ok (.iconst 0, 1) := by decide +kernel
theorem dX6_beginPassage_11 : decode cX6_beginPassage 11 = .ok (.istore_n 1, 1) := by decide +kernel
theorem dX6_beginPassage_12 : decode cX6_beginPassage 12 = .ok (.iload_n 1, 1) := by decide +kernel
theorem dX6_beginPassage_13 : decode cX6_beginPassage 13 = .ok (.iconst 4, 1) := by decide +kernel
theorem dX6_beginPassage_14 : decode cX6_beginPassage 14 = .ok (.if_icmp .ge 16, 3) := by decide +kernel
theorem dX6_beginPassage_17 : decode cX6_beginPassage 17 = .ok (.aload_n 0, 1) := by decide +kernel
theorem dX6_beginPassage_18 : decode cX6_beginPassage 18 = .ok (.getfield 24, 3) := by decide +kernel
theorem dX6_beginPassage_21 : decode cX6_beginPassage 21 = .ok (.iload_n 1, 1) := by decide +kernel
theorem dX6_beginPassage_22 : decode cX6_beginPassage 22 = .ok (.iconst 0, 1) := by decide +kernel
theorem dX6_beginPassage_23 : decode cX6_beginPassage 23 = .ok (.iastore, 1) := by decide +kernel
theorem dX6_beginPassage_24 : decode cX6_beginPassage 24 = .ok (.iinc 1 1, 3) := by decide +kernel
theorem dX6_beginPassage_27 : decode cX6_beginPassage 27 = .ok (.goto (-15), 3) := by decide +kernel
theorem dX6_beginPassage_30 : decode cX6_beginPassage 30 = .ok (.return_, 1) := by decide +kernel
theorem dX6_addShown_0 : decode cX6_addShown 0 = .ok (.iload_n 1, 1) := by decide +kernel
theorem dX6_addShown_1 : decode cX6_addShown 1 = .ok (.ifCond .lt 18, 3) := by decide +kernel
theorem dX6_addShown_4 : decode cX6_addShown 4 = .ok (.iload_n 1, 1) := by decide +kernel
theorem dX6_addShown_5 : decode cX6_addShown 5 = .ok (.iconst 4, 1) := by decide +kernel
theorem dX6_addShown_6 : decode cX6_addShown 6 = .ok (.if_icmp .ge 13, 3) := by decide +kernel
theorem dX6_addShown_9 : decode cX6_addShown 9 = .ok (.aload_n 0, 1) := by decide +kernel
theorem dX6_addShown_10 : decode cX6_addShown 10 = .ok (.getfield 24, 3) := by decide +kernel
theorem dX6_addShown_13 : decode cX6_addShown 13 = .ok (.iload_n 1, 1) := by decide +kernel
theorem dX6_addShown_14 : decode cX6_addShown 14 = .ok (.dup2, 1) := by decide +kernel
theorem dX6_addShown_15 : decode cX6_addShown 15 = .ok (.iaload, 1) := by decide +kernel
theorem dX6_addShown_16 : decode cX6_addShown 16 = .ok (.iconst 1, 1) := by decide +kernel
theorem dX6_addShown_17 : decode cX6_addShown 17 = .ok (.iadd, 1) := by decide +kernel
theorem dX6_addShown_18 : decode cX6_addShown 18 = .ok (.iastore, 1) := by decide +kernel
theorem dX6_addShown_19 : decode cX6_addShown 19 = .ok (.return_, 1) := by decide +kernel
theorem dX6_shownTicks_0 : decode cX6_shownTicks 0 = .ok (.iload_n 1, 1) := by decide +kernel
theorem dX6_shownTicks_1 : decode cX6_shownTicks 1 = .ok (.ifCond .lt 17, 3) := by decide +kernel
theorem dX6_shownTicks_4 : decode cX6_shownTicks 4 = .ok (.iload_n 1, 1) := by decide +kernel
theorem dX6_shownTicks_5 : decode cX6_shownTicks 5 = .ok (.iconst 4, 1) := by decide +kernel
theorem dX6_shownTicks_6 : decode cX6_shownTicks 6 = .ok (.if_icmp .ge 12, 3) := by decide +kernel
theorem dX6_shownTicks_9 : decode cX6_shownTicks 9 = .ok (.aload_n 0, 1) := by decide +kernel
theorem dX6_shownTicks_10 : decode cX6_shownTicks 10 = .ok (.getfield 24, 3) := by decide +kernel
theorem dX6_shownTicks_13 : decode cX6_shownTicks 13 = .ok (.iload_n 1, 1) := by decide +kernel
theorem dX6_shownTicks_14 : decode cX6_shownTicks 14 = .ok (.iaload, 1) := by decide +kernel
theorem dX6_shownTicks_15 : decode cX6_shownTicks 15 = .ok (.goto 4, 3) := by decide +kernel
theorem dX6_shownTicks_18 : decode cX6_shownTicks 18 = .ok (.iconst 0, 1) := by decide +kernel
theorem dX6_shownTicks_19 : decode cX6_shownTicks 19 = .ok (.ireturn, 1) := by decide +kernel
theorem dX6_add_0 : decode cX6_add 0 = .ok (.aload_n 0, 1) := by decide +kernel
theorem dX6_add_1 : decode cX6_add 1 = .ok (.getfield 37, 3) := by decide +kernel
theorem dX6_add_4 : decode cX6_add 4 = .ok (.bipush 40, 2) := by decide +kernel
theorem dX6_add_6 : decode cX6_add 6 = .ok (.irem, 1) := by decide +kernel
theorem dX6_add_7 : decode cX6_add 7 = .ok (.istore 4, 2) := by decide +kernel
theorem dX6_add_9 : decode cX6_add 9 = .ok (.iload 4, 2) := by decide +kernel
theorem dX6_add_11 : decode cX6_add 11 = .ok (.ifCond .ge 4, 3) := by decide +kernel
theorem dX6_add_14 : decode cX6_add 14 = .ok (.return_, 1) := by decide +kernel
theorem dX6_add_15 : decode cX6_add 15 = .ok (.aload_n 0, 1) := by decide +kernel
theorem dX6_add_16 : decode cX6_add 16 = .ok (.getfield 11, 3) := by decide +kernel
theorem dX6_add_19 : decode cX6_add 19 = .ok (.iload 4, 2) := by decide +kernel
theorem dX6_add_21 : decode cX6_add 21 = .ok (.iload_n 1, 1) := by decide +kernel
theorem dX6_add_22 : decode cX6_add 22 = .ok (.iastore, 1) := by decide +kernel
theorem dX6_add_23 : decode cX6_add 23 = .ok (.aload_n 0, 1) := by decide +kernel
theorem dX6_add_24 : decode cX6_add 24 = .ok (.getfield 15, 3) := by decide +kernel
theorem dX6_add_27 : decode cX6_add 27 = .ok (.iload 4, 2) := by decide +kernel
theorem dX6_add_29 : decode cX6_add 29 = .ok (.iload_n 2, 1) := by decide +kernel
theorem dX6_add_30 : decode cX6_add 30 = .ok (.iastore, 1) := by decide +kernel
theorem dX6_add_31 : decode cX6_add 31 = .ok (.aload_n 0, 1) := by decide +kernel
theorem dX6_add_32 : decode cX6_add 32 = .ok (.getfield 18, 3) := by decide +kernel
theorem dX6_add_35 : decode cX6_add 35 = .ok (.iload 4, 2) := by decide +kernel
theorem dX6_add_37 : decode cX6_add 37 = .ok (.iload_n 3, 1) := by decide +kernel
theorem dX6_add_38 : decode cX6_add 38 = .ok (.iastore, 1) := by decide +kernel
theorem dX6_add_39 : decode cX6_add 39 = .ok (.aload_n 0, 1) := by decide +kernel
theorem dX6_add_40 : decode cX6_add 40 = .ok (.getfield 21, 3) := by decide +kernel
theorem dX6_add_43 : decode cX6_add 43 = .ok (.iload 4, 2) := by decide +kernel
theorem dX6_add_45 : decode cX6_add 45 = .ok (.aload_n 0, 1) := by decide +kernel
theorem dX6_add_46 : decode cX6_add 46 = .ok (.getfield 33, 3) := by decide +kernel
theorem dX6_add_49 : decode cX6_add 49 = .ok (.iconst 1, 1) := by decide +kernel
theorem dX6_add_50 : decode cX6_add 50 = .ok (.isub, 1) := by decide +kernel
theorem dX6_add_51 : decode cX6_add 51 = .ok (.iastore, 1) := by decide +kernel
theorem dX6_add_52 : decode cX6_add 52 = .ok (.aload_n 0, 1) := by decide +kernel
theorem dX6_add_53 : decode cX6_add 53 = .ok (.dup, 1) := by decide +kernel
theorem dX6_add_54 : decode cX6_add 54 = .ok (.getfield 37, 3) := by decide +kernel
theorem dX6_add_57 : decode cX6_add 57 = .ok (.iconst 1, 1) := by decide +kernel
theorem dX6_add_58 : decode cX6_add 58 = .ok (.iadd, 1) := by decide +kernel
theorem dX6_add_59 : decode cX6_add 59 = .ok (.putfield 37, 3) := by decide +kernel
theorem dX6_add_62 : decode cX6_add 62 = .ok (.return_, 1) := by decide +kernel
theorem dX6_kept_0 : decode cX6_kept 0 = .ok (.aload_n 0, 1) := by decide +kernel
theorem dX6_kept_1 : decode cX6_kept 1 = .ok (.getfield 37, 3) := by decide +kernel
theorem dX6_kept_4 : decode cX6_kept 4 = .ok (.bipush 40, 2) := by decide +kernel
theorem dX6_kept_6 : decode cX6_kept 6 = .ok (.if_icmp .ge 10, 3) := by decide +kernel
theorem dX6_kept_9 : decode cX6_kept 9 = .ok (.aload_n 0, 1) := by decide +kernel
theorem dX6_kept_10 : decode cX6_kept 10 = .ok (.getfield 37, 3) := by decide +kernel
theorem dX6_kept_13 : decode cX6_kept 13 = .ok (.goto 5, 3) := by decide +kernel
theorem dX6_kept_16 : decode cX6_kept 16 = .ok (.bipush 40, 2) := by decide +kernel
theorem dX6_kept_18 : decode cX6_kept 18 = .ok (.ireturn, 1) := by decide +kernel
theorem dX6_valueOf_0 : decode cX6_valueOf 0 = .ok (.aload_n 0, 1) := by decide +kernel
theorem dX6_valueOf_1 : decode cX6_valueOf 1 = .ok (.getfield 37, 3) := by decide +kernel
theorem dX6_valueOf_4 : decode cX6_valueOf 4 = .ok (.iconst 1, 1) := by decide +kernel
theorem dX6_valueOf_5 : decode cX6_valueOf 5 = .ok (.isub, 1) := by decide +kernel
theorem dX6_valueOf_6 : decode cX6_valueOf 6 = .ok (.iload_n 1, 1) := by decide +kernel
theorem dX6_valueOf_7 : decode cX6_valueOf 7 = .ok (.isub, 1) := by decide +kernel
theorem dX6_valueOf_8 : decode cX6_valueOf 8 = .ok (.bipush 40, 2) := by decide +kernel
theorem dX6_valueOf_10 : decode cX6_valueOf 10 = .ok (.irem, 1) := by decide +kernel
theorem dX6_valueOf_11 : decode cX6_valueOf 11 = .ok (.istore_n 3, 1) := by decide +kernel
theorem dX6_valueOf_12 : decode cX6_valueOf 12 = .ok (.iload_n 3, 1) := by decide +kernel
theorem dX6_valueOf_13 : decode cX6_valueOf 13 = .ok (.ifCond .ge 6, 3) := by decide +kernel
theorem dX6_valueOf_16 : decode cX6_valueOf 16 = .ok (.bipush (-4), 2) := by decide +kernel
theorem dX6_valueOf_18 : decode cX6_valueOf 18 = .ok (.ireturn, 1) := by decide +kernel
theorem dX6_valueOf_19 : decode cX6_valueOf 19 = .ok (.iload_n 2, 1) := by decide +kernel
theorem dX6_valueOf_20 : decode cX6_valueOf 20 = .ok (.tableswitch 49 0 2 #[28, 35, 42], 28) := by decide +kernel
theorem dX6_valueOf_48 : decode cX6_valueOf 48 = .ok (.aload_n 0, 1) := by decide +kernel
theorem dX6_valueOf_49 : decode cX6_valueOf 49 = .ok (.getfield 11, 3) := by decide +kernel
theorem dX6_valueOf_52 : decode cX6_valueOf 52 = .ok (.iload_n 3, 1) := by decide +kernel
theorem dX6_valueOf_53 : decode cX6_valueOf 53 = .ok (.iaload, 1) := by decide +kernel
theorem dX6_valueOf_54 : decode cX6_valueOf 54 = .ok (.ireturn, 1) := by decide +kernel
theorem dX6_valueOf_55 : decode cX6_valueOf 55 = .ok (.aload_n 0, 1) := by decide +kernel
theorem dX6_valueOf_56 : decode cX6_valueOf 56 = .ok (.getfield 15, 3) := by decide +kernel
theorem dX6_valueOf_59 : decode cX6_valueOf 59 = .ok (.iload_n 3, 1) := by decide +kernel
theorem dX6_valueOf_60 : decode cX6_valueOf 60 = .ok (.iaload, 1) := by decide +kernel
theorem dX6_valueOf_61 : decode cX6_valueOf 61 = .ok (.ireturn, 1) := by decide +kernel
theorem dX6_valueOf_62 : decode cX6_valueOf 62 = .ok (.aload_n 0, 1) := by decide +kernel
theorem dX6_valueOf_63 : decode cX6_valueOf 63 = .ok (.getfield 18, 3) := by decide +kernel
theorem dX6_valueOf_66 : decode cX6_valueOf 66 = .ok (.iload_n 3, 1) := by decide +kernel
theorem dX6_valueOf_67 : decode cX6_valueOf 67 = .ok (.iaload, 1) := by decide +kernel
theorem dX6_valueOf_68 : decode cX6_valueOf 68 = .ok (.ireturn, 1) := by decide +kernel
theorem dX6_valueOf_69 : decode cX6_valueOf 69 = .ok (.aload_n 0, 1) := by decide +kernel
theorem dX6_valueOf_70 : decode cX6_valueOf 70 = .ok (.getfield 21, 3) := by decide +kernel
theorem dX6_valueOf_73 : decode cX6_valueOf 73 = .ok (.iload_n 3, 1) := by decide +kernel
theorem dX6_valueOf_74 : decode cX6_valueOf 74 = .ok (.iaload, 1) := by decide +kernel
theorem dX6_valueOf_75 : decode cX6_valueOf 75 = .ok (.ireturn, 1) := by decide +kernel
set_option maxRecDepth 20000 in
theorem ggX7_init_X2_init : GoodIn wsX7_init wsX2_init := goodIn_r _ [25, 26, 2, 3, 20, 27, 52] (by decide +kernel) (by decide +kernel)
set_option maxRecDepth 20000 in
theorem gX7_init_X2_init : GoodIn wsX7_init (wsX2_init) := ggX7_init_X2_init
set_option maxRecDepth 20000 in
theorem ggX7_init_X4_init : GoodIn wsX7_init wsX4_init := goodIn_r _ [30, 31, 2, 3, 20, 32, 33, 34, 35, 36, 61, 62, 63, 64, 65] (by decide +kernel) (by decide +kernel)
set_option maxRecDepth 20000 in
theorem gX7_init_X4_init : GoodIn wsX7_init (wsX4_init) := ggX7_init_X4_init
set_option maxRecDepth 20000 in
theorem ggX7_init_X1_init : GoodIn wsX7_init wsX1_init := goodIn_r _ [38, 39, 2, 3, 20, 40, 41, 42, 43, 66, 67, 68, 69, 70, 71, 72] (by decide +kernel) (by decide +kernel)
set_option maxRecDepth 20000 in
theorem gX7_init_X1_init_n25 : GoodIn wsX7_init (wsX1_init) := ggX7_init_X1_init
set_option maxRecDepth 20000 in
theorem ggX7_init_X6_init : GoodIn wsX7_init wsX6_init := goodIn_r _ [45, 46, 2, 3, 20, 47, 48, 49, 50, 51, 73, 74, 75, 76, 77, 78, 79] (by decide +kernel) (by decide +kernel)
set_option maxRecDepth 20000 in
theorem gX7_init_X6_init_n32 : GoodIn wsX7_init (wsX6_init) := ggX7_init_X6_init
theorem dX7_init_0 : decode cX7_init 0 = .ok (.aload_n 0, 1) := by decide +kernel
theorem dX7_init_1 : decode cX7_init 1 = .ok (.invokespecial 1, 3) := by decide +kernel
theorem dX7_init_4 : decode cX7_init 4 = .ok (.aload_n 0, 1) := by decide +kernel
theorem dX7_init_5 : decode cX7_init 5 = .ok (.new 7, 3) := by decide +kernel
theorem dX7_init_8 : decode cX7_init 8 = .ok (.dup, 1) := by decide +kernel
theorem dX7_init_9 : decode cX7_init 9 = .ok (.invokespecial 9, 3) := by decide +kernel
theorem dX7_init_12 : decode cX7_init 12 = .ok (.putfield 10, 3) := by decide +kernel
theorem dX7_init_15 : decode cX7_init 15 = .ok (.aload_n 0, 1) := by decide +kernel
theorem dX7_init_16 : decode cX7_init 16 = .ok (.new 16, 3) := by decide +kernel
theorem dX7_init_19 : decode cX7_init 19 = .ok (.dup, 1) := by decide +kernel
theorem dX7_init_20 : decode cX7_init 20 = .ok (.invokespecial 18, 3) := by decide +kernel
theorem dX7_init_23 : decode cX7_init 23 = .ok (.putfield 19, 3) := by decide +kernel
theorem dX7_init_26 : decode cX7_init 26 = .ok (.aload_n 0, 1) := by decide +kernel
theorem dX7_init_27 : decode cX7_init 27 = .ok (.new 23, 3) := by decide +kernel
theorem dX7_init_30 : decode cX7_init 30 = .ok (.dup, 1) := by decide +kernel
theorem dX7_init_31 : decode cX7_init 31 = .ok (.invokespecial 25, 3) := by decide +kernel
theorem dX7_init_34 : decode cX7_init 34 = .ok (.putfield 26, 3) := by decide +kernel
theorem dX7_init_37 : decode cX7_init 37 = .ok (.aload_n 0, 1) := by decide +kernel
theorem dX7_init_38 : decode cX7_init 38 = .ok (.new 30, 3) := by decide +kernel
theorem dX7_init_41 : decode cX7_init 41 = .ok (.dup, 1) := by decide +kernel
theorem dX7_init_42 : decode cX7_init 42 = .ok (.invokespecial 32, 3) := by decide +kernel
theorem dX7_init_45 : decode cX7_init 45 = .ok (.putfield 33, 3) := by decide +kernel
theorem dX7_init_48 : decode cX7_init 48 = .ok (.aload_n 0, 1) := by decide +kernel
theorem dX7_init_49 : decode cX7_init 49 = .ok (.iconst 4, 1) := by decide +kernel
theorem dX7_init_50 : decode cX7_init 50 = .ok (.newarray .int, 2) := by decide +kernel
theorem dX7_init_52 : decode cX7_init 52 = .ok (.putfield 37, 3) := by decide +kernel
theorem dX7_init_55 : decode cX7_init 55 = .ok (.aload_n 0, 1) := by decide +kernel
theorem dX7_init_56 : decode cX7_init 56 = .ok (.bipush 50, 2) := by decide +kernel
theorem dX7_init_58 : decode cX7_init 58 = .ok (.putfield 41, 3) := by decide +kernel
theorem dX7_init_61 : decode cX7_init 61 = .ok (.return_, 1) := by decide +kernel
set_option maxRecDepth 20000 in
theorem ggX7_become_X2_become : GoodIn wsX7_become wsX2_become := goodIn_r _ [17, 18, 19, 7, 8, 9, 65] (by decide +kernel) (by decide +kernel)
set_option maxRecDepth 20000 in
theorem gX7_become_X2_become : GoodIn wsX7_become (wsV RX7 45 RX2 yX2_become wsX2_become) := goodIn_app (goodIn_of _ (by decide +kernel)) ggX7_become_X2_become
set_option maxRecDepth 20000 in
theorem ggX7_become_X4_become : GoodIn wsX7_become wsX4_become := goodIn_r _ [24, 25, 26, 7, 8, 9, 27, 28, 29, 30, 66, 67, 68, 69, 70] (by decide +kernel) (by decide +kernel)
set_option maxRecDepth 20000 in
theorem gX7_become_X4_become : GoodIn wsX7_become (wsV RX7 49 RX4 yX4_become wsX4_become) := goodIn_app (goodIn_of _ (by decide +kernel)) ggX7_become_X4_become
set_option maxRecDepth 20000 in
theorem ggX7_become_X1_become : GoodIn wsX7_become wsX1_become := goodIn_r _ [35, 36, 37, 7, 8, 9, 38, 39, 40, 41, 42, 43, 71, 72, 73, 74, 75, 76, 77] (by decide +kernel) (by decide +kernel)
set_option maxRecDepth 20000 in
theorem gX7_become_X1_become : GoodIn wsX7_become (wsV RX7 52 RX1 yX1_become wsX1_become) := goodIn_app (goodIn_of _ (by decide +kernel)) ggX7_become_X1_become
set_option maxRecDepth 20000 in
theorem ggX7_become_X6_become : GoodIn wsX7_become wsX6_become := goodIn_r _ [48, 49, 50, 7, 8, 9, 51, 52, 53, 54, 55, 56, 78, 79, 80, 81, 82, 83, 84] (by decide +kernel) (by decide +kernel)
set_option maxRecDepth 20000 in
theorem gX7_become_X6_become : GoodIn wsX7_become (wsV RX7 55 RX6 yX6_become wsX6_become) := goodIn_app (goodIn_of _ (by decide +kernel)) ggX7_become_X6_become
theorem dX7_become_0 : decode cX7_become 0 = .ok (.aload_n 0, 1) := by decide +kernel
theorem dX7_become_1 : decode cX7_become 1 = .ok (.getfield 10, 3) := by decide +kernel
theorem dX7_become_4 : decode cX7_become 4 = .ok (.aload_n 1, 1) := by decide +kernel
theorem dX7_become_5 : decode cX7_become 5 = .ok (.getfield 10, 3) := by decide +kernel
theorem dX7_become_8 : decode cX7_become 8 = .ok (.invokevirtual 45, 3) := by decide +kernel
theorem dX7_become_11 : decode cX7_become 11 = .ok (.aload_n 0, 1) := by decide +kernel
theorem dX7_become_12 : decode cX7_become 12 = .ok (.getfield 19, 3) := by decide +kernel
theorem dX7_become_15 : decode cX7_become 15 = .ok (.aload_n 1, 1) := by decide +kernel
theorem dX7_become_16 : decode cX7_become 16 = .ok (.getfield 19, 3) := by decide +kernel
theorem dX7_become_19 : decode cX7_become 19 = .ok (.invokevirtual 49, 3) := by decide +kernel
theorem dX7_become_22 : decode cX7_become 22 = .ok (.aload_n 0, 1) := by decide +kernel
theorem dX7_become_23 : decode cX7_become 23 = .ok (.getfield 26, 3) := by decide +kernel
theorem dX7_become_26 : decode cX7_become 26 = .ok (.aload_n 1, 1) := by decide +kernel
theorem dX7_become_27 : decode cX7_become 27 = .ok (.getfield 26, 3) := by decide +kernel
theorem dX7_become_30 : decode cX7_become 30 = .ok (.invokevirtual 52, 3) := by decide +kernel
theorem dX7_become_33 : decode cX7_become 33 = .ok (.aload_n 0, 1) := by decide +kernel
theorem dX7_become_34 : decode cX7_become 34 = .ok (.getfield 33, 3) := by decide +kernel
theorem dX7_become_37 : decode cX7_become 37 = .ok (.aload_n 1, 1) := by decide +kernel
theorem dX7_become_38 : decode cX7_become 38 = .ok (.getfield 33, 3) := by decide +kernel
theorem dX7_become_41 : decode cX7_become 41 = .ok (.invokevirtual 55, 3) := by decide +kernel
theorem dX7_become_44 : decode cX7_become 44 = .ok (.aload_n 1, 1) := by decide +kernel
theorem dX7_become_45 : decode cX7_become 45 = .ok (.getfield 37, 3) := by decide +kernel
theorem dX7_become_48 : decode cX7_become 48 = .ok (.iconst 0, 1) := by decide +kernel
theorem dX7_become_49 : decode cX7_become 49 = .ok (.aload_n 0, 1) := by decide +kernel
theorem dX7_become_50 : decode cX7_become 50 = .ok (.getfield 37, 3) := by decide +kernel
theorem dX7_become_53 : decode cX7_become 53 = .ok (.iconst 0, 1) := by decide +kernel
theorem dX7_become_54 : decode cX7_become 54 = .ok (.iconst 4, 1) := by decide +kernel
theorem dX7_become_55 : decode cX7_become 55 = .ok (.invokestatic 58, 3) := by decide +kernel
theorem dX7_become_58 : decode cX7_become 58 = .ok (.aload_n 0, 1) := by decide +kernel
theorem dX7_become_59 : decode cX7_become 59 = .ok (.aload_n 1, 1) := by decide +kernel
theorem dX7_become_60 : decode cX7_become 60 = .ok (.getfield 64, 3) := by decide +kernel
theorem dX7_become_63 : decode cX7_become 63 = .ok (.putfield 64, 3) := by decide +kernel
theorem dX7_become_66 : decode cX7_become 66 = .ok (.aload_n 0, 1) := by decide +kernel
theorem dX7_become_67 : decode cX7_become 67 = .ok (.aload_n 1, 1) := by decide +kernel
theorem dX7_become_68 : decode cX7_become 68 = .ok (.getfield 41, 3) := by decide +kernel
theorem dX7_become_71 : decode cX7_become 71 = .ok (.putfield 41, 3) := by decide +kernel
theorem dX7_become_74 : decode cX7_become 74 = .ok (.aload_n 0, 1) := by decide +kernel
theorem dX7_become_75 : decode cX7_become 75 = .ok (.aload_n 1, 1) := by decide +kernel
theorem dX7_become_76 : decode cX7_become 76 = .ok (.getfield 67, 3) := by decide +kernel
theorem dX7_become_79 : decode cX7_become 79 = .ok (.putfield 67, 3) := by decide +kernel
theorem dX7_become_82 : decode cX7_become 82 = .ok (.return_, 1) := by decide +kernel
theorem dX7_ticksOf_0 : decode cX7_ticksOf 0 = .ok (.iload_n 1, 1) := by decide +kernel
theorem dX7_ticksOf_1 : decode cX7_ticksOf 1 = .ok (.ifCond .lt 17, 3) := by decide +kernel
theorem dX7_ticksOf_4 : decode cX7_ticksOf 4 = .ok (.iload_n 1, 1) := by decide +kernel
theorem dX7_ticksOf_5 : decode cX7_ticksOf 5 = .ok (.iconst 4, 1) := by decide +kernel
theorem dX7_ticksOf_6 : decode cX7_ticksOf 6 = .ok (.if_icmp .ge 12, 3) := by decide +kernel
theorem dX7_ticksOf_9 : decode cX7_ticksOf 9 = .ok (.aload_n 0, 1) := by decide +kernel
theorem dX7_ticksOf_10 : decode cX7_ticksOf 10 = .ok (.getfield 37, 3) := by decide +kernel
theorem dX7_ticksOf_13 : decode cX7_ticksOf 13 = .ok (.iload_n 1, 1) := by decide +kernel
theorem dX7_ticksOf_14 : decode cX7_ticksOf 14 = .ok (.iaload, 1) := by decide +kernel
theorem dX7_ticksOf_15 : decode cX7_ticksOf 15 = .ok (.goto 4, 3) := by decide +kernel
theorem dX7_ticksOf_18 : decode cX7_ticksOf 18 = .ok (.iconst 0, 1) := by decide +kernel
theorem dX7_ticksOf_19 : decode cX7_ticksOf 19 = .ok (.ireturn, 1) := by decide +kernel
set_option maxRecDepth 20000 in
theorem ggX7_goOn_X1_beginsChange : GoodIn wsX7_goOn wsX1_beginsChange := goodIn_r _ [10, 11, 12, 13, 14, 15, 16, 9, 17, 18, 19, 20, 21, 22, 50, 51, 52, 53, 54, 55, 56] (by decide +kernel) (by decide +kernel)
set_option maxRecDepth 20000 in
theorem gX7_goOn_X1_beginsChange : GoodIn wsX7_goOn (wsV RX7 70 RX1 yX1_beginsChange wsX1_beginsChange) := goodIn_app (goodIn_of _ (by decide +kernel)) ggX7_goOn_X1_beginsChange
set_option maxRecDepth 20000 in
theorem ggX7_goOn_X4_isLitAt : GoodIn wsX7_goOn wsX4_isLitAt := goodIn_r _ [27, 28, 29, 30, 31, 32, 33, 26, 34, 35, 36, 57, 58, 59, 60, 61] (by decide +kernel) (by decide +kernel)
set_option maxRecDepth 20000 in
theorem gX7_goOn_X4_isLitAt : GoodIn wsX7_goOn (wsV RX7 74 RX4 yX4_isLitAt wsX4_isLitAt) := goodIn_app (goodIn_of _ (by decide +kernel)) ggX7_goOn_X4_isLitAt
set_option maxRecDepth 20000 in
theorem ggX7_goOn_X1_spend : GoodIn wsX7_goOn wsX1_spend := goodIn_r _ [40, 11, 12, 18, 41, 20, 21, 9, 22, 14, 15, 16, 17, 19, 50, 51, 52, 53, 54, 55, 56] (by decide +kernel) (by decide +kernel)
set_option maxRecDepth 20000 in
theorem gX7_goOn_X1_spend : GoodIn wsX7_goOn (wsV RX7 78 RX1 yX1_spend wsX1_spend) := goodIn_app (goodIn_of _ (by decide +kernel)) ggX7_goOn_X1_spend
theorem dX7_goOn_0 : decode cX7_goOn 0 = .ok (.aload_n 0, 1) := by decide +kernel
theorem dX7_goOn_1 : decode cX7_goOn 1 = .ok (.getfield 26, 3) := by decide +kernel
theorem dX7_goOn_4 : decode cX7_goOn 4 = .ok (.invokevirtual 70, 3) := by decide +kernel
theorem dX7_goOn_7 : decode cX7_goOn 7 = .ok (.ifCond .eq 13, 3) := by decide +kernel
theorem dX7_goOn_10 : decode cX7_goOn 10 = .ok (.aload_n 0, 1) := by decide +kernel
theorem dX7_goOn_11 : decode cX7_goOn 11 = .ok (.dup, 1) := by decide +kernel
theorem dX7_goOn_12 : decode cX7_goOn 12 = .ok (.getfield 67, 3) := by decide +kernel
theorem dX7_goOn_15 : decode cX7_goOn 15 = .ok (.iconst 1, 1) := by decide +kernel
theorem dX7_goOn_16 : decode cX7_goOn 16 = .ok (.iadd, 1) := by decide +kernel
theorem dX7_goOn_17 : decode cX7_goOn 17 = .ok (.putfield 67, 3) := by decide +kernel
theorem dX7_goOn_20 : decode cX7_goOn 20 = .ok (.aload_n 0, 1) := by decide +kernel
theorem dX7_goOn_21 : decode cX7_goOn 21 = .ok (.getfield 26, 3) := by decide +kernel
theorem dX7_goOn_24 : decode cX7_goOn 24 = .ok (.aload_n 0, 1) := by decide +kernel
theorem dX7_goOn_25 : decode cX7_goOn 25 = .ok (.getfield 64, 3) := by decide +kernel
theorem dX7_goOn_28 : decode cX7_goOn 28 = .ok (.aload_n 0, 1) := by decide +kernel
theorem dX7_goOn_29 : decode cX7_goOn 29 = .ok (.getfield 19, 3) := by decide +kernel
theorem dX7_goOn_32 : decode cX7_goOn 32 = .ok (.aload_n 0, 1) := by decide +kernel
theorem dX7_goOn_33 : decode cX7_goOn 33 = .ok (.getfield 64, 3) := by decide +kernel
theorem dX7_goOn_36 : decode cX7_goOn 36 = .ok (.invokevirtual 74, 3) := by decide +kernel
theorem dX7_goOn_39 : decode cX7_goOn 39 = .ok (.invokevirtual 78, 3) := by decide +kernel
theorem dX7_goOn_42 : decode cX7_goOn 42 = .ok (.istore_n 1, 1) := by decide +kernel
theorem dX7_goOn_43 : decode cX7_goOn 43 = .ok (.iload_n 1, 1) := by decide +kernel
theorem dX7_goOn_44 : decode cX7_goOn 44 = .ok (.ifCond .lt 18, 3) := by decide +kernel
theorem dX7_goOn_47 : decode cX7_goOn 47 = .ok (.iload_n 1, 1) := by decide +kernel
theorem dX7_goOn_48 : decode cX7_goOn 48 = .ok (.iconst 4, 1) := by decide +kernel
theorem dX7_goOn_49 : decode cX7_goOn 49 = .ok (.if_icmp .ge 13, 3) := by decide +kernel
theorem dX7_goOn_52 : decode cX7_goOn 52 = .ok (.aload_n 0, 1) := by decide +kernel
theorem dX7_goOn_53 : decode cX7_goOn 53 = .ok (.getfield 37, 3) := by decide +kernel
theorem dX7_goOn_56 : decode cX7_goOn 56 = .ok (.iload_n 1, 1) := by decide +kernel
theorem dX7_goOn_57 : decode cX7_goOn 57 = .ok (.dup2, 1) := by decide +kernel
theorem dX7_goOn_58 : decode cX7_goOn 58 = .ok (.iaload, 1) := by decide +kernel
theorem dX7_goOn_59 : decode cX7_goOn 59 = .ok (.iconst 1, 1) := by decide +kernel
theorem dX7_goOn_60 : decode cX7_goOn 60 = .ok (.iadd, 1) := by decide +kernel
theorem dX7_goOn_61 : decode cX7_goOn 61 = .ok (.iastore, 1) := by decide +kernel
theorem dX7_goOn_62 : decode cX7_goOn 62 = .ok (.aload_n 0, 1) := by decide +kernel
theorem dX7_goOn_63 : decode cX7_goOn 63 = .ok (.dup, 1) := by decide +kernel
theorem dX7_goOn_64 : decode cX7_goOn 64 = .ok (.getfield 64, 3) := by decide +kernel
theorem dX7_goOn_67 : decode cX7_goOn 67 = .ok (.iconst 1, 1) := by decide +kernel
theorem dX7_goOn_68 : decode cX7_goOn 68 = .ok (.iadd, 1) := by decide +kernel
theorem dX7_goOn_69 : decode cX7_goOn 69 = .ok (.putfield 64, 3) := by decide +kernel
theorem dX7_goOn_72 : decode cX7_goOn 72 = .ok (.iload_n 1, 1) := by decide +kernel
theorem dX7_goOn_73 : decode cX7_goOn 73 = .ok (.ireturn, 1) := by decide +kernel
set_option maxRecDepth 20000 in
theorem ggX7_goOnWithShip_X7_goOn : GoodIn wsX7_goOnWithShip wsX7_goOn := goodIn_r _ [7, 8, 9, 2, 10, 11, 12, 13, 14, 15, 16, 17, 18, 19, 20, 21, 22, 23, 24, 25, 26, 27, 28, 29, 30, 31, 32, 33, 34, 35, 36, 37, 38, 39, 40, 41, 42, 43, 44, 45, 46, 47, 108, 109, 110, 111, 112, 113, 114, 115, 116, 117, 118, 119, 120, 121, 122, 123, 124, 125, 126, 127] (by decide +kernel) (by decide +kernel)
set_option maxRecDepth 20000 in
theorem gX7_goOnWithShip_X7_goOn : GoodIn wsX7_goOnWithShip (wsV RX7 82 RX7 yX7_goOn wsX7_goOn) := goodIn_app (goodIn_of _ (by decide +kernel)) ggX7_goOnWithShip_X7_goOn
set_option maxRecDepth 20000 in
theorem ggX7_goOnWithShip_X7_shownAt : GoodIn wsX7_goOnWithShip wsX7_shownAt := goodIn_r _ [51, 52, 53, 54, 55, 56, 57, 58, 59, 60, 61, 62, 63, 64, 65, 66, 67, 68, 69, 70, 71, 72, 73, 74, 75, 6, 76, 77, 78, 79, 80, 8, 81, 82, 83, 84, 85, 86, 15, 87, 25, 88, 24, 26, 27, 28, 89, 90, 91, 108, 109, 110, 111, 112, 113, 114, 115, 128, 116, 117, 118, 119, 120, 121, 122] (by decide +kernel) (by decide +kernel)
set_option maxRecDepth 20000 in
theorem gX7_goOnWithShip_X7_shownAt : GoodIn wsX7_goOnWithShip (wsV RX7 86 RX7 yX7_shownAt wsX7_shownAt) := goodIn_app (goodIn_of _ (by decide +kernel)) ggX7_goOnWithShip_X7_shownAt
set_option maxRecDepth 20000 in
theorem ggX7_goOnWithShip_X6_addShown : GoodIn wsX7_goOnWithShip wsX6_addShown := goodIn_r _ [96, 97, 129, 130, 131, 132, 133, 134, 135] (by decide +kernel) (by decide +kernel)
set_option maxRecDepth 20000 in
theorem gX7_goOnWithShip_X6_addShown : GoodIn wsX7_goOnWithShip (wsV RX7 90 RX6 yX6_addShown wsX6_addShown) := goodIn_app (goodIn_of _ (by decide +kernel)) ggX7_goOnWithShip_X6_addShown
set_option maxRecDepth 20000 in
theorem ggX7_goOnWithShip_X3_byQuarter : GoodIn wsX7_goOnWithShip wsX3_byQuarter := goodIn_r _ [56, 57, 58, 55, 59, 60, 61, 62, 63, 64, 65, 66] (by decide +kernel) (by decide +kernel)
set_option maxRecDepth 20000 in
theorem gX7_goOnWithShip_X3_byQuarter : GoodIn wsX7_goOnWithShip (va_wsS RX7 94 yX3_byQuarter wsX3_byQuarter) := goodIn_app (goodIn_of _ (by decide +kernel)) ggX7_goOnWithShip_X3_byQuarter
set_option maxRecDepth 20000 in
theorem ggX7_goOnWithShip_X6_add : GoodIn wsX7_goOnWithShip wsX6_add := goodIn_r _ [101, 102, 103, 104, 105, 106, 107, 129, 130, 131, 132, 133, 134, 135] (by decide +kernel) (by decide +kernel)
set_option maxRecDepth 20000 in
theorem gX7_goOnWithShip_X6_add : GoodIn wsX7_goOnWithShip (wsV RX7 100 RX6 yX6_add wsX6_add) := goodIn_app (goodIn_of _ (by decide +kernel)) ggX7_goOnWithShip_X6_add
theorem dX7_goOnWithShip_0 : decode cX7_goOnWithShip 0 = .ok (.aload_n 0, 1) := by decide +kernel
theorem dX7_goOnWithShip_1 : decode cX7_goOnWithShip 1 = .ok (.invokevirtual 82, 3) := by decide +kernel
theorem dX7_goOnWithShip_4 : decode cX7_goOnWithShip 4 = .ok (.istore 4, 2) := by decide +kernel
theorem dX7_goOnWithShip_6 : decode cX7_goOnWithShip 6 = .ok (.aload_n 0, 1) := by decide +kernel
theorem dX7_goOnWithShip_7 : decode cX7_goOnWithShip 7 = .ok (.iload_n 1, 1) := by decide +kernel
theorem dX7_goOnWithShip_8 : decode cX7_goOnWithShip 8 = .ok (.iload_n 2, 1) := by decide +kernel
theorem dX7_goOnWithShip_9 : decode cX7_goOnWithShip 9 = .ok (.iload 4, 2) := by decide +kernel
theorem dX7_goOnWithShip_11 : decode cX7_goOnWithShip 11 = .ok (.invokevirtual 86, 3) := by decide +kernel
theorem dX7_goOnWithShip_14 : decode cX7_goOnWithShip 14 = .ok (.istore 5, 2) := by decide +kernel
theorem dX7_goOnWithShip_16 : decode cX7_goOnWithShip 16 = .ok (.aload_n 0, 1) := by decide +kernel
theorem dX7_goOnWithShip_17 : decode cX7_goOnWithShip 17 = .ok (.getfield 33, 3) := by decide +kernel
theorem dX7_goOnWithShip_20 : decode cX7_goOnWithShip 20 = .ok (.iload 5, 2) := by decide +kernel
theorem dX7_goOnWithShip_22 : decode cX7_goOnWithShip 22 = .ok (.invokevirtual 90, 3) := by decide +kernel
theorem dX7_goOnWithShip_25 : decode cX7_goOnWithShip 25 = .ok (.iload 5, 2) := by decide +kernel
theorem dX7_goOnWithShip_27 : decode cX7_goOnWithShip 27 = .ok (.iload_n 3, 1) := by decide +kernel
theorem dX7_goOnWithShip_28 : decode cX7_goOnWithShip 28 = .ok (.if_icmp .eq 23, 3) := by decide +kernel
theorem dX7_goOnWithShip_31 : decode cX7_goOnWithShip 31 = .ok (.aload_n 0, 1) := by decide +kernel
theorem dX7_goOnWithShip_32 : decode cX7_goOnWithShip 32 = .ok (.getfield 33, 3) := by decide +kernel
theorem dX7_goOnWithShip_35 : decode cX7_goOnWithShip 35 = .ok (.aload_n 0, 1) := by decide +kernel
theorem dX7_goOnWithShip_36 : decode cX7_goOnWithShip 36 = .ok (.getfield 64, 3) := by decide +kernel
theorem dX7_goOnWithShip_39 : decode cX7_goOnWithShip 39 = .ok (.iconst 1, 1) := by decide +kernel
theorem dX7_goOnWithShip_40 : decode cX7_goOnWithShip 40 = .ok (.isub, 1) := by decide +kernel
theorem dX7_goOnWithShip_41 : decode cX7_goOnWithShip 41 = .ok (.iload 5, 2) := by decide +kernel
theorem dX7_goOnWithShip_43 : decode cX7_goOnWithShip 43 = .ok (.iload_n 1, 1) := by decide +kernel
theorem dX7_goOnWithShip_44 : decode cX7_goOnWithShip 44 = .ok (.iload_n 2, 1) := by decide +kernel
theorem dX7_goOnWithShip_45 : decode cX7_goOnWithShip 45 = .ok (.invokestatic 94, 3) := by decide +kernel
theorem dX7_goOnWithShip_48 : decode cX7_goOnWithShip 48 = .ok (.invokevirtual 100, 3) := by decide +kernel
theorem dX7_goOnWithShip_51 : decode cX7_goOnWithShip 51 = .ok (.iload 5, 2) := by decide +kernel
theorem dX7_goOnWithShip_53 : decode cX7_goOnWithShip 53 = .ok (.ireturn, 1) := by decide +kernel
set_option maxRecDepth 20000 in
theorem ggX7_shownAt_X3_byQuarter : GoodIn wsX7_shownAt wsX3_byQuarter := goodIn_r _ [5, 6, 7, 4, 8, 9, 10, 11, 12, 13, 14, 15] (by decide +kernel) (by decide +kernel)
set_option maxRecDepth 20000 in
theorem gX7_shownAt_X3_byQuarter : GoodIn wsX7_shownAt (va_wsS RX7 94 yX3_byQuarter wsX3_byQuarter) := goodIn_app (goodIn_of _ (by decide +kernel)) ggX7_shownAt_X3_byQuarter
set_option maxRecDepth 20000 in
theorem ggX7_shownAt_X2_colorAt : GoodIn wsX7_shownAt wsX2_colorAt := goodIn_r _ [20, 21, 57] (by decide +kernel) (by decide +kernel)
set_option maxRecDepth 20000 in
theorem gX7_shownAt_X2_colorAt : GoodIn wsX7_shownAt (wsV RX7 104 RX2 yX2_colorAt wsX2_colorAt) := goodIn_app (goodIn_of _ (by decide +kernel)) ggX7_shownAt_X2_colorAt
set_option maxRecDepth 20000 in
theorem ggX7_shownAt_X7_isInRange : GoodIn wsX7_shownAt wsX7_isInRange := goodIn_r _ [26, 27, 28, 29, 25, 30, 31, 32, 33, 34, 35, 36, 37, 38, 39, 40, 41, 42, 43, 44, 45, 46, 47, 48, 49, 50, 51, 52, 53, 54, 55, 56, 58, 59, 60, 61, 62, 63, 64] (by decide +kernel) (by decide +kernel)
set_option maxRecDepth 20000 in
theorem gX7_shownAt_X7_isInRange : GoodIn wsX7_shownAt (wsV RX7 108 RX7 yX7_isInRange wsX7_isInRange) := goodIn_app (goodIn_of _ (by decide +kernel)) ggX7_shownAt_X7_isInRange
theorem dX7_shownAt_0 : decode cX7_shownAt 0 = .ok (.iload_n 3, 1) := by decide +kernel
theorem dX7_shownAt_1 : decode cX7_shownAt 1 = .ok (.ifCond .ne 11, 3) := by decide +kernel
theorem dX7_shownAt_4 : decode cX7_shownAt 4 = .ok (.iload_n 1, 1) := by decide +kernel
theorem dX7_shownAt_5 : decode cX7_shownAt 5 = .ok (.ifCond .ne 9, 3) := by decide +kernel
theorem dX7_shownAt_8 : decode cX7_shownAt 8 = .ok (.iload_n 2, 1) := by decide +kernel
theorem dX7_shownAt_9 : decode cX7_shownAt 9 = .ok (.ifCond .ne 5, 3) := by decide +kernel
theorem dX7_shownAt_12 : decode cX7_shownAt 12 = .ok (.iconst 0, 1) := by decide +kernel
theorem dX7_shownAt_13 : decode cX7_shownAt 13 = .ok (.ireturn, 1) := by decide +kernel
theorem dX7_shownAt_14 : decode cX7_shownAt 14 = .ok (.aload_n 0, 1) := by decide +kernel
theorem dX7_shownAt_15 : decode cX7_shownAt 15 = .ok (.getfield 10, 3) := by decide +kernel
theorem dX7_shownAt_18 : decode cX7_shownAt 18 = .ok (.iload_n 1, 1) := by decide +kernel
theorem dX7_shownAt_19 : decode cX7_shownAt 19 = .ok (.iload_n 2, 1) := by decide +kernel
theorem dX7_shownAt_20 : decode cX7_shownAt 20 = .ok (.invokestatic 94, 3) := by decide +kernel
theorem dX7_shownAt_23 : decode cX7_shownAt 23 = .ok (.invokevirtual 104, 3) := by decide +kernel
theorem dX7_shownAt_26 : decode cX7_shownAt 26 = .ok (.istore 4, 2) := by decide +kernel
theorem dX7_shownAt_28 : decode cX7_shownAt 28 = .ok (.aload_n 0, 1) := by decide +kernel
theorem dX7_shownAt_29 : decode cX7_shownAt 29 = .ok (.iload_n 1, 1) := by decide +kernel
theorem dX7_shownAt_30 : decode cX7_shownAt 30 = .ok (.iload_n 2, 1) := by decide +kernel
theorem dX7_shownAt_31 : decode cX7_shownAt 31 = .ok (.iload 4, 2) := by decide +kernel
theorem dX7_shownAt_33 : decode cX7_shownAt 33 = .ok (.invokevirtual 108, 3) := by decide +kernel
theorem dX7_shownAt_36 : decode cX7_shownAt 36 = .ok (.ifCond .eq 8, 3) := by decide +kernel
theorem dX7_shownAt_39 : decode cX7_shownAt 39 = .ok (.iload 4, 2) := by decide +kernel
theorem dX7_shownAt_41 : decode cX7_shownAt 41 = .ok (.goto 4, 3) := by decide +kernel
theorem dX7_shownAt_44 : decode cX7_shownAt 44 = .ok (.iconst 0, 1) := by decide +kernel
theorem dX7_shownAt_45 : decode cX7_shownAt 45 = .ok (.ireturn, 1) := by decide +kernel
set_option maxRecDepth 20000 in
theorem ggX7_rangeOf_X1_brightnessOf : GoodIn wsX7_rangeOf wsX1_brightnessOf := goodIn_r _ [9, 10, 11, 12, 13, 14, 8, 15, 28, 29, 30, 31, 32, 33, 34] (by decide +kernel) (by decide +kernel)
set_option maxRecDepth 20000 in
theorem gX7_rangeOf_X1_brightnessOf : GoodIn wsX7_rangeOf (wsV RX7 115 RX1 yX1_brightnessOf wsX1_brightnessOf) := goodIn_app (goodIn_of _ (by decide +kernel)) ggX7_rangeOf_X1_brightnessOf
set_option maxRecDepth 20000 in
theorem ggX7_rangeOf_X7_percentOf : GoodIn wsX7_rangeOf wsX7_percentOf := goodIn_r _ [19] (by decide +kernel) (by decide +kernel)
set_option maxRecDepth 20000 in
theorem gX7_rangeOf_X7_percentOf : GoodIn wsX7_rangeOf (va_wsS RX7 118 yX7_percentOf wsX7_percentOf) := goodIn_app (goodIn_of _ (by decide +kernel)) ggX7_rangeOf_X7_percentOf
theorem dX7_rangeOf_0 : decode cX7_rangeOf 0 = .ok (.aload_n 0, 1) := by decide +kernel
theorem dX7_rangeOf_1 : decode cX7_rangeOf 1 = .ok (.getfield 26, 3) := by decide +kernel
theorem dX7_rangeOf_4 : decode cX7_rangeOf 4 = .ok (.aload_n 0, 1) := by decide +kernel
theorem dX7_rangeOf_5 : decode cX7_rangeOf 5 = .ok (.getfield 26, 3) := by decide +kernel
theorem dX7_rangeOf_8 : decode cX7_rangeOf 8 = .ok (.getfield 112, 3) := by decide +kernel
theorem dX7_rangeOf_11 : decode cX7_rangeOf 11 = .ok (.invokevirtual 115, 3) := by decide +kernel
theorem dX7_rangeOf_14 : decode cX7_rangeOf 14 = .ok (.istore_n 2, 1) := by decide +kernel
theorem dX7_rangeOf_15 : decode cX7_rangeOf 15 = .ok (.iload_n 2, 1) := by decide +kernel
theorem dX7_rangeOf_16 : decode cX7_rangeOf 16 = .ok (.i2f, 1) := by decide +kernel
theorem dX7_rangeOf_17 : decode cX7_rangeOf 17 = .ok (.iload_n 1, 1) := by decide +kernel
theorem dX7_rangeOf_18 : decode cX7_rangeOf 18 = .ok (.invokestatic 118, 3) := by decide +kernel
theorem dX7_rangeOf_21 : decode cX7_rangeOf 21 = .ok (.i2f, 1) := by decide +kernel
theorem dX7_rangeOf_22 : decode cX7_rangeOf 22 = .ok (.fmul, 1) := by decide +kernel
theorem dX7_rangeOf_23 : decode cX7_rangeOf 23 = .ok (.ldc 121, 2) := by decide +kernel
theorem dX7_rangeOf_25 : decode cX7_rangeOf 25 = .ok (.fdiv, 1) := by decide +kernel
theorem dX7_rangeOf_26 : decode cX7_rangeOf 26 = .ok (.aload_n 0, 1) := by decide +kernel
theorem dX7_rangeOf_27 : decode cX7_rangeOf 27 = .ok (.getfield 41, 3) := by decide +kernel
theorem dX7_rangeOf_30 : decode cX7_rangeOf 30 = .ok (.i2f, 1) := by decide +kernel
theorem dX7_rangeOf_31 : decode cX7_rangeOf 31 = .ok (.fmul, 1) := by decide +kernel
theorem dX7_rangeOf_32 : decode cX7_rangeOf 32 = .ok (.ldc 122, 2) := by decide +kernel
theorem dX7_rangeOf_34 : decode cX7_rangeOf 34 = .ok (.fdiv, 1) := by decide +kernel
theorem dX7_rangeOf_35 : decode cX7_rangeOf 35 = .ok (.freturn, 1) := by decide +kernel
set_option maxRecDepth 20000 in
theorem ggX7_isInRange_X7_rangeOf : GoodIn wsX7_isInRange wsX7_rangeOf := goodIn_r _ [5, 6, 7, 8, 9, 10, 11, 12, 13, 14, 15, 16, 17, 18, 19, 20, 21, 22, 4, 23, 24, 25, 26, 27, 28, 29, 30, 31, 32, 33, 34, 35, 36, 37, 38] (by decide +kernel) (by decide +kernel)
set_option maxRecDepth 20000 in
theorem gX7_isInRange_X7_rangeOf : GoodIn wsX7_isInRange (wsV RX7 123 RX7 yX7_rangeOf wsX7_rangeOf) := goodIn_app (goodIn_of _ (by decide +kernel)) ggX7_isInRange_X7_rangeOf
theorem dX7_isInRange_0 : decode cX7_isInRange 0 = .ok (.aload_n 0, 1) := by decide +kernel
theorem dX7_isInRange_1 : decode cX7_isInRange 1 = .ok (.iload_n 3, 1) := by decide +kernel
theorem dX7_isInRange_2 : decode cX7_isInRange 2 = .ok (.invokevirtual 123, 3) := by decide +kernel
theorem dX7_isInRange_5 : decode cX7_isInRange 5 = .ok (.fstore 4, 2) := by decide +kernel
theorem dX7_isInRange_7 : decode cX7_isInRange 7 = .ok (.iload_n 1, 1) := by decide +kernel
theorem dX7_isInRange_8 : decode cX7_isInRange 8 = .ok (.iload_n 1, 1) := by decide +kernel
theorem dX7_isInRange_9 : decode cX7_isInRange 9 = .ok (.imul, 1) := by decide +kernel
theorem dX7_isInRange_10 : decode cX7_isInRange 10 = .ok (.iload_n 2, 1) := by decide +kernel
theorem dX7_isInRange_11 : decode cX7_isInRange 11 = .ok (.iload_n 2, 1) := by decide +kernel
theorem dX7_isInRange_12 : decode cX7_isInRange 12 = .ok (.imul, 1) := by decide +kernel
theorem dX7_isInRange_13 : decode cX7_isInRange 13 = .ok (.iadd, 1) := by decide +kernel
theorem dX7_isInRange_14 : decode cX7_isInRange 14 = .ok (.i2d, 1) := by decide +kernel
theorem dX7_isInRange_15 : decode cX7_isInRange 15 = .ok (.fload 4, 2) := by decide +kernel
theorem dX7_isInRange_17 : decode cX7_isInRange 17 = .ok (.f2d, 1) := by decide +kernel
theorem dX7_isInRange_18 : decode cX7_isInRange 18 = .ok (.fload 4, 2) := by decide +kernel
theorem dX7_isInRange_20 : decode cX7_isInRange 20 = .ok (.f2d, 1) := by decide +kernel
theorem dX7_isInRange_21 : decode cX7_isInRange 21 = .ok (.dmul, 1) := by decide +kernel
theorem dX7_isInRange_22 : decode cX7_isInRange 22 = .ok (.dcmp .g, 1) := by decide +kernel
theorem dX7_isInRange_23 : decode cX7_isInRange 23 = .ok (.ifCond .gt 7, 3) := by decide +kernel
theorem dX7_isInRange_26 : decode cX7_isInRange 26 = .ok (.iconst 1, 1) := by decide +kernel
theorem dX7_isInRange_27 : decode cX7_isInRange 27 = .ok (.goto 4, 3) := by decide +kernel
theorem dX7_isInRange_30 : decode cX7_isInRange 30 = .ok (.iconst 0, 1) := by decide +kernel
theorem dX7_isInRange_31 : decode cX7_isInRange 31 = .ok (.ireturn, 1) := by decide +kernel
theorem dX7_percentOf_0 : decode cX7_percentOf 0 = .ok (.iload_n 0, 1) := by decide +kernel
theorem dX7_percentOf_1 : decode cX7_percentOf 1 = .ok (.tableswitch 36 1 3 #[27, 30, 33], 27) := by decide +kernel
theorem dX7_percentOf_28 : decode cX7_percentOf 28 = .ok (.bipush 100, 2) := by decide +kernel
theorem dX7_percentOf_30 : decode cX7_percentOf 30 = .ok (.ireturn, 1) := by decide +kernel
theorem dX7_percentOf_31 : decode cX7_percentOf 31 = .ok (.bipush 40, 2) := by decide +kernel
theorem dX7_percentOf_33 : decode cX7_percentOf 33 = .ok (.ireturn, 1) := by decide +kernel
theorem dX7_percentOf_34 : decode cX7_percentOf 34 = .ok (.bipush 55, 2) := by decide +kernel
theorem dX7_percentOf_36 : decode cX7_percentOf 36 = .ok (.ireturn, 1) := by decide +kernel
theorem dX7_percentOf_37 : decode cX7_percentOf 37 = .ok (.iconst 0, 1) := by decide +kernel
theorem dX7_percentOf_38 : decode cX7_percentOf 38 = .ok (.ireturn, 1) := by decide +kernel
theorem dX8_init_0 : decode cX8_init 0 = .ok (.aload_n 0, 1) := by decide +kernel
theorem dX8_init_1 : decode cX8_init 1 = .ok (.invokespecial 5, 3) := by decide +kernel
theorem dX8_init_4 : decode cX8_init 4 = .ok (.aload_n 0, 1) := by decide +kernel
theorem dX8_init_5 : decode cX8_init 5 = .ok (.bipush 120, 2) := by decide +kernel
theorem dX8_init_7 : decode cX8_init 7 = .ok (.newarray .char, 2) := by decide +kernel
theorem dX8_init_9 : decode cX8_init 9 = .ok (.putfield 13, 3) := by decide +kernel
theorem dX8_init_12 : decode cX8_init 12 = .ok (.aload_n 0, 1) := by decide +kernel
theorem dX8_init_13 : decode cX8_init 13 = .ok (.bipush 16, 2) := by decide +kernel
theorem dX8_init_15 : decode cX8_init 15 = .ok (.newarray .int, 2) := by decide +kernel
theorem dX8_init_17 : decode cX8_init 17 = .ok (.putfield 17, 3) := by decide +kernel
theorem dX8_init_20 : decode cX8_init 20 = .ok (.return_, 1) := by decide +kernel
theorem dX8_isFull_0 : decode cX8_isFull 0 = .ok (.aload_n 0, 1) := by decide +kernel
theorem dX8_isFull_1 : decode cX8_isFull 1 = .ok (.getfield 21, 3) := by decide +kernel
theorem dX8_isFull_4 : decode cX8_isFull 4 = .ok (.bipush 120, 2) := by decide +kernel
theorem dX8_isFull_6 : decode cX8_isFull 6 = .ok (.if_icmp .lt 7, 3) := by decide +kernel
theorem dX8_isFull_9 : decode cX8_isFull 9 = .ok (.iconst 1, 1) := by decide +kernel
theorem dX8_isFull_10 : decode cX8_isFull 10 = .ok (.goto 4, 3) := by decide +kernel
theorem dX8_isFull_13 : decode cX8_isFull 13 = .ok (.iconst 0, 1) := by decide +kernel
theorem dX8_isFull_14 : decode cX8_isFull 14 = .ok (.ireturn, 1) := by decide +kernel
theorem dX8_append_0 : decode cX8_append 0 = .ok (.aload_n 0, 1) := by decide +kernel
theorem dX8_append_1 : decode cX8_append 1 = .ok (.getfield 21, 3) := by decide +kernel
theorem dX8_append_4 : decode cX8_append 4 = .ok (.ifCond .lt 32, 3) := by decide +kernel
theorem dX8_append_7 : decode cX8_append 7 = .ok (.aload_n 0, 1) := by decide +kernel
theorem dX8_append_8 : decode cX8_append 8 = .ok (.getfield 21, 3) := by decide +kernel
theorem dX8_append_11 : decode cX8_append 11 = .ok (.bipush 120, 2) := by decide +kernel
theorem dX8_append_13 : decode cX8_append 13 = .ok (.if_icmp .ge 23, 3) := by decide +kernel
theorem dX8_append_16 : decode cX8_append 16 = .ok (.aload_n 0, 1) := by decide +kernel
theorem dX8_append_17 : decode cX8_append 17 = .ok (.getfield 13, 3) := by decide +kernel
theorem dX8_append_20 : decode cX8_append 20 = .ok (.aload_n 0, 1) := by decide +kernel
theorem dX8_append_21 : decode cX8_append 21 = .ok (.getfield 21, 3) := by decide +kernel
theorem dX8_append_24 : decode cX8_append 24 = .ok (.iload_n 1, 1) := by decide +kernel
theorem dX8_append_25 : decode cX8_append 25 = .ok (.castore, 1) := by decide +kernel
theorem dX8_append_26 : decode cX8_append 26 = .ok (.aload_n 0, 1) := by decide +kernel
theorem dX8_append_27 : decode cX8_append 27 = .ok (.dup, 1) := by decide +kernel
theorem dX8_append_28 : decode cX8_append 28 = .ok (.getfield 21, 3) := by decide +kernel
theorem dX8_append_31 : decode cX8_append 31 = .ok (.iconst 1, 1) := by decide +kernel
theorem dX8_append_32 : decode cX8_append 32 = .ok (.iadd, 1) := by decide +kernel
theorem dX8_append_33 : decode cX8_append 33 = .ok (.putfield 21, 3) := by decide +kernel
theorem dX8_append_36 : decode cX8_append 36 = .ok (.return_, 1) := by decide +kernel
set_option maxRecDepth 20000 in
theorem ggX8_carryOut_X8_carryOutItem : GoodIn wsX8_carryOut wsX8_carryOutItem := goodIn_r _ [10, 1, 11, 12, 13, 9, 14, 15, 16, 17, 18, 3, 19, 20, 21, 22, 23, 24, 25, 26, 27, 28, 29, 30, 31, 32, 33, 34, 35, 36, 37, 38, 39, 40, 41, 42, 43, 44, 45, 46, 47, 48, 49, 50, 51, 52, 53, 54, 55, 56, 57, 58, 59, 60, 61, 62, 63, 64, 65, 66, 67, 68, 69, 70, 71, 72, 73, 74, 75, 76, 77, 78, 79, 80, 81, 82, 83, 84, 85, 86, 87, 88, 89, 90, 91, 92, 93, 94, 95, 96, 97, 98, 99, 100, 101, 102, 103, 104, 105, 106, 107, 108, 109, 110, 111, 112, 113, 114, 115, 116, 117, 118, 119, 120, 121, 122, 123, 124, 125, 126, 127, 128, 129, 130, 131, 132, 133, 134, 135, 136, 137, 138, 139, 140, 141, 142, 143, 144, 145, 146, 147, 148, 149, 150, 151, 152, 153, 154, 155, 156, 157, 158, 159, 160, 161, 162, 163, 164, 165, 166, 167, 168, 169, 170, 171, 172, 173, 174, 175, 176, 177, 178, 179, 180, 181, 182, 183, 184, 185, 186, 187, 188, 189, 190, 191, 192] (by decide +kernel) (by decide +kernel)
set_option maxRecDepth 20000 in
theorem gX8_carryOut_X8_carryOutItem : GoodIn wsX8_carryOut (wsV RX8 34 RX8 yX8_carryOutItem wsX8_carryOutItem) := goodIn_app (goodIn_of _ (by decide +kernel)) ggX8_carryOut_X8_carryOutItem
theorem dX8_carryOut_0 : decode cX8_carryOut 0 = .ok (.aload_n 0, 1) := by decide +kernel
theorem dX8_carryOut_1 : decode cX8_carryOut 1 = .ok (.iconst 0, 1) := by decide +kernel
theorem dX8_carryOut_2 : decode cX8_carryOut 2 = .ok (.putfield 25, 3) := by decide +kernel
theorem dX8_carryOut_5 : decode cX8_carryOut 5 = .ok (.aload_n 0, 1) := by decide +kernel
theorem dX8_carryOut_6 : decode cX8_carryOut 6 = .ok (.iconst 0, 1) := by decide +kernel
theorem dX8_carryOut_7 : decode cX8_carryOut 7 = .ok (.putfield 28, 3) := by decide +kernel
theorem dX8_carryOut_10 : decode cX8_carryOut 10 = .ok (.iconst 0, 1) := by decide +kernel
theorem dX8_carryOut_11 : decode cX8_carryOut 11 = .ok (.istore_n 2, 1) := by decide +kernel
theorem dX8_carryOut_12 : decode cX8_carryOut 12 = .ok (.iload_n 2, 1) := by decide +kernel
theorem dX8_carryOut_13 : decode cX8_carryOut 13 = .ok (.bipush 120, 2) := by decide +kernel
theorem dX8_carryOut_15 : decode cX8_carryOut 15 = .ok (.if_icmp .ge 56, 3) := by decide +kernel
theorem dX8_carryOut_18 : decode cX8_carryOut 18 = .ok (.aload_n 0, 1) := by decide +kernel
theorem dX8_carryOut_19 : decode cX8_carryOut 19 = .ok (.getfield 25, 3) := by decide +kernel
theorem dX8_carryOut_22 : decode cX8_carryOut 22 = .ok (.aload_n 0, 1) := by decide +kernel
theorem dX8_carryOut_23 : decode cX8_carryOut 23 = .ok (.getfield 21, 3) := by decide +kernel
theorem dX8_carryOut_26 : decode cX8_carryOut 26 = .ok (.if_icmp .ge 45, 3) := by decide +kernel
theorem dX8_carryOut_29 : decode cX8_carryOut 29 = .ok (.aload_n 0, 1) := by decide +kernel
theorem dX8_carryOut_30 : decode cX8_carryOut 30 = .ok (.aload_n 0, 1) := by decide +kernel
theorem dX8_carryOut_31 : decode cX8_carryOut 31 = .ok (.getfield 25, 3) := by decide +kernel
theorem dX8_carryOut_34 : decode cX8_carryOut 34 = .ok (.putfield 31, 3) := by decide +kernel
theorem dX8_carryOut_37 : decode cX8_carryOut 37 = .ok (.aload_n 0, 1) := by decide +kernel
theorem dX8_carryOut_38 : decode cX8_carryOut 38 = .ok (.aload_n 0, 1) := by decide +kernel
theorem dX8_carryOut_39 : decode cX8_carryOut 39 = .ok (.aload_n 1, 1) := by decide +kernel
theorem dX8_carryOut_40 : decode cX8_carryOut 40 = .ok (.invokevirtual 34, 3) := by decide +kernel
theorem dX8_carryOut_43 : decode cX8_carryOut 43 = .ok (.putfield 38, 3) := by decide +kernel
theorem dX8_carryOut_46 : decode cX8_carryOut 46 = .ok (.aload_n 0, 1) := by decide +kernel
theorem dX8_carryOut_47 : decode cX8_carryOut 47 = .ok (.getfield 38, 3) := by decide +kernel
theorem dX8_carryOut_50 : decode cX8_carryOut 50 = .ok (.ifCond .eq 5, 3) := by decide +kernel
theorem dX8_carryOut_53 : decode cX8_carryOut 53 = .ok (.iconst 0, 1) := by decide +kernel
theorem dX8_carryOut_54 : decode cX8_carryOut 54 = .ok (.ireturn, 1) := by decide +kernel
theorem dX8_carryOut_55 : decode cX8_carryOut 55 = .ok (.aload_n 0, 1) := by decide +kernel
theorem dX8_carryOut_56 : decode cX8_carryOut 56 = .ok (.dup, 1) := by decide +kernel
theorem dX8_carryOut_57 : decode cX8_carryOut 57 = .ok (.getfield 28, 3) := by decide +kernel
theorem dX8_carryOut_60 : decode cX8_carryOut 60 = .ok (.iconst 1, 1) := by decide +kernel
theorem dX8_carryOut_61 : decode cX8_carryOut 61 = .ok (.iadd, 1) := by decide +kernel
theorem dX8_carryOut_62 : decode cX8_carryOut 62 = .ok (.putfield 28, 3) := by decide +kernel
theorem dX8_carryOut_65 : decode cX8_carryOut 65 = .ok (.iinc 2 1, 3) := by decide +kernel
theorem dX8_carryOut_68 : decode cX8_carryOut 68 = .ok (.goto (-56), 3) := by decide +kernel
theorem dX8_carryOut_71 : decode cX8_carryOut 71 = .ok (.iconst 1, 1) := by decide +kernel
theorem dX8_carryOut_72 : decode cX8_carryOut 72 = .ok (.ireturn, 1) := by decide +kernel
set_option maxRecDepth 20000 in
theorem ggX8_carryOutItem_X8_skipLetters : GoodIn wsX8_carryOutItem wsX8_skipLetters := goodIn_r _ [6, 1, 7, 8, 9, 5, 10, 11, 12, 158, 159, 160, 161, 162, 163, 164] (by decide +kernel) (by decide +kernel)
set_option maxRecDepth 20000 in
theorem gX8_carryOutItem_X8_skipLetters : GoodIn wsX8_carryOutItem (wsV RX8 41 RX8 yX8_skipLetters wsX8_skipLetters) := goodIn_app (goodIn_of _ (by decide +kernel)) ggX8_carryOutItem_X8_skipLetters
set_option maxRecDepth 20000 in
theorem ggX8_carryOutItem_X8_isWord : GoodIn wsX8_carryOutItem wsX8_isWord := goodIn_r _ [16, 1, 17, 18, 19, 20, 21, 22, 23, 24, 25, 26, 27, 28, 7, 8, 9, 5, 10, 11, 12, 29, 30, 31, 32, 33, 34, 35, 36, 37, 38, 39, 40, 41, 42, 43, 44, 45, 46, 47, 48, 49, 50, 51, 52, 53, 54, 55, 56, 57, 58, 59, 60, 61, 62, 63, 64, 65, 158, 159, 160, 161, 162, 163, 164] (by decide +kernel) (by decide +kernel)
set_option maxRecDepth 20000 in
theorem gX8_carryOutItem_X8_isWord : GoodIn wsX8_carryOutItem (wsV RX8 46 RX8 yX8_isWord wsX8_isWord) := goodIn_app (goodIn_of _ (by decide +kernel)) ggX8_carryOutItem_X8_isWord
set_option maxRecDepth 20000 in
theorem ggX8_carryOutItem_X8_carryOutSector : GoodIn wsX8_carryOutItem wsX8_carryOutSector := goodIn_r _ [69, 70, 71, 72, 5, 73, 1, 74, 75, 76, 77, 7, 8, 9, 10, 11, 12, 2, 3, 4, 6, 13, 14, 15, 16, 17, 18, 19, 20, 21, 22, 23, 24, 25, 26, 27, 28, 29, 30, 31, 32, 33, 34, 35, 36, 37, 38, 39, 40, 41, 42, 43, 44, 45, 46, 47, 48, 49, 50, 51, 52, 53, 54, 55, 56, 57, 58, 59, 60, 61, 62, 63, 64, 65, 78, 79, 80, 81, 82, 83, 84, 85, 86, 87, 165, 166, 167, 168, 169, 170, 171, 172, 158, 159, 160, 161, 162, 163, 164, 173] (by decide +kernel) (by decide +kernel)
set_option maxRecDepth 20000 in
theorem gX8_carryOutItem_X8_carryOutSector : GoodIn wsX8_carryOutItem (wsV RX8 50 RX8 yX8_carryOutSector wsX8_carryOutSector) := goodIn_app (goodIn_of _ (by decide +kernel)) ggX8_carryOutItem_X8_carryOutSector
set_option maxRecDepth 20000 in
theorem ggX8_carryOutItem_X8_carryOutCode : GoodIn wsX8_carryOutItem wsX8_carryOutCode := goodIn_r _ [91, 1, 92, 7, 8, 9, 5, 10, 11, 12, 78, 79, 80, 81, 74, 75, 76, 77, 93, 94, 95, 96, 97, 98, 99, 100, 101, 102, 103, 104, 105, 106, 158, 159, 160, 161, 162, 163, 164, 165, 166, 167, 168, 169, 170, 171, 172, 174, 175, 176, 177, 178] (by decide +kernel) (by decide +kernel)
set_option maxRecDepth 20000 in
theorem gX8_carryOutItem_X8_carryOutCode : GoodIn wsX8_carryOutItem (wsV RX8 55 RX8 yX8_carryOutCode wsX8_carryOutCode) := goodIn_app (goodIn_of _ (by decide +kernel)) ggX8_carryOutItem_X8_carryOutCode
set_option maxRecDepth 20000 in
theorem ggX8_carryOutItem_X8_carryOutChanger : GoodIn wsX8_carryOutItem wsX8_carryOutChanger := goodIn_r _ [110, 111, 112, 113, 5, 114, 1, 74, 75, 76, 77, 7, 8, 9, 10, 11, 12, 2, 3, 4, 6, 13, 14, 15, 16, 17, 18, 19, 20, 21, 22, 23, 24, 25, 26, 27, 28, 29, 30, 31, 32, 33, 34, 35, 36, 37, 38, 39, 40, 41, 42, 43, 44, 45, 46, 47, 48, 49, 50, 51, 52, 53, 54, 55, 56, 57, 58, 59, 60, 61, 62, 63, 64, 65, 115, 116, 117, 118, 119, 120, 121, 122, 123, 124, 125, 126, 127, 128, 129, 130, 131, 132, 165, 166, 167, 168, 169, 170, 171, 172, 158, 159, 160, 161, 162, 163, 164, 179, 180, 181, 182, 183, 184, 185] (by decide +kernel) (by decide +kernel)
set_option maxRecDepth 20000 in
theorem gX8_carryOutItem_X8_carryOutChanger : GoodIn wsX8_carryOutItem (wsV RX8 60 RX8 yX8_carryOutChanger wsX8_carryOutChanger) := goodIn_app (goodIn_of _ (by decide +kernel)) ggX8_carryOutItem_X8_carryOutChanger
set_option maxRecDepth 20000 in
theorem ggX8_carryOutItem_X8_carryOutLamp : GoodIn wsX8_carryOutItem wsX8_carryOutLamp := goodIn_r _ [136, 111, 112, 113, 5, 114, 1, 74, 75, 76, 77, 7, 8, 9, 10, 11, 12, 2, 3, 4, 6, 13, 14, 15, 16, 17, 18, 19, 20, 21, 22, 23, 24, 25, 26, 27, 28, 29, 30, 31, 32, 33, 34, 35, 36, 37, 38, 39, 40, 41, 42, 43, 44, 45, 46, 47, 48, 49, 50, 51, 52, 53, 54, 55, 56, 57, 58, 59, 60, 61, 62, 63, 64, 65, 78, 79, 80, 81, 137, 138, 139, 118, 140, 141, 142, 143, 144, 128, 130, 131, 132, 145, 124, 125, 126, 127, 129, 165, 166, 167, 168, 169, 170, 171, 172, 179, 180, 181, 182, 183, 184, 185, 158, 159, 160, 161, 162, 163, 164] (by decide +kernel) (by decide +kernel)
set_option maxRecDepth 20000 in
theorem gX8_carryOutItem_X8_carryOutLamp : GoodIn wsX8_carryOutItem (wsV RX8 65 RX8 yX8_carryOutLamp wsX8_carryOutLamp) := goodIn_app (goodIn_of _ (by decide +kernel)) ggX8_carryOutItem_X8_carryOutLamp
set_option maxRecDepth 20000 in
theorem ggX8_carryOutItem_X8_carryOutClear : GoodIn wsX8_carryOutItem wsX8_carryOutClear := goodIn_r _ [149, 78, 79, 80, 5, 81, 1, 74, 75, 76, 77, 7, 8, 9, 10, 11, 12, 150, 151, 152, 153, 165, 166, 167, 168, 169, 170, 171, 172, 158, 159, 160, 161, 162, 163, 164] (by decide +kernel) (by decide +kernel)
set_option maxRecDepth 20000 in
theorem gX8_carryOutItem_X8_carryOutClear : GoodIn wsX8_carryOutItem (wsV RX8 70 RX8 yX8_carryOutClear wsX8_carryOutClear) := goodIn_app (goodIn_of _ (by decide +kernel)) ggX8_carryOutItem_X8_carryOutClear
set_option maxRecDepth 20000 in
theorem ggX8_carryOutItem_X8_carryOutChange : GoodIn wsX8_carryOutItem wsX8_carryOutChange := goodIn_r _ [157, 78, 79, 80, 5, 81, 1, 74, 75, 76, 77, 7, 8, 9, 10, 11, 12, 150, 151, 152, 153, 165, 166, 167, 168, 169, 170, 171, 172, 179, 180, 181, 182, 183, 184, 185, 158, 159, 160, 161, 162, 163, 164] (by decide +kernel) (by decide +kernel)
set_option maxRecDepth 20000 in
theorem gX8_carryOutItem_X8_carryOutChange : GoodIn wsX8_carryOutItem (wsV RX8 75 RX8 yX8_carryOutChange wsX8_carryOutChange) := goodIn_app (goodIn_of _ (by decide +kernel)) ggX8_carryOutItem_X8_carryOutChange
theorem dX8_carryOutItem_0 : decode cX8_carryOutItem 0 = .ok (.aload_n 0, 1) := by decide +kernel
theorem dX8_carryOutItem_1 : decode cX8_carryOutItem 1 = .ok (.getfield 25, 3) := by decide +kernel
theorem dX8_carryOutItem_4 : decode cX8_carryOutItem 4 = .ok (.istore_n 2, 1) := by decide +kernel
theorem dX8_carryOutItem_5 : decode cX8_carryOutItem 5 = .ok (.aload_n 0, 1) := by decide +kernel
theorem dX8_carryOutItem_6 : decode cX8_carryOutItem 6 = .ok (.invokevirtual 41, 3) := by decide +kernel
theorem dX8_carryOutItem_9 : decode cX8_carryOutItem 9 = .ok (.aload_n 0, 1) := by decide +kernel
theorem dX8_carryOutItem_10 : decode cX8_carryOutItem 10 = .ok (.iload_n 2, 1) := by decide +kernel
theorem dX8_carryOutItem_11 : decode cX8_carryOutItem 11 = .ok (.ldc 44, 2) := by decide +kernel
theorem dX8_carryOutItem_13 : decode cX8_carryOutItem 13 = .ok (.invokevirtual 46, 3) := by decide +kernel
theorem dX8_carryOutItem_16 : decode cX8_carryOutItem 16 = .ok (.ifCond .eq 9, 3) := by decide +kernel
theorem dX8_carryOutItem_19 : decode cX8_carryOutItem 19 = .ok (.aload_n 0, 1) := by decide +kernel
theorem dX8_carryOutItem_20 : decode cX8_carryOutItem 20 = .ok (.aload_n 1, 1) := by decide +kernel
theorem dX8_carryOutItem_21 : decode cX8_carryOutItem 21 = .ok (.invokevirtual 50, 3) := by decide +kernel
theorem dX8_carryOutItem_24 : decode cX8_carryOutItem 24 = .ok (.ireturn, 1) := by decide +kernel
theorem dX8_carryOutItem_25 : decode cX8_carryOutItem 25 = .ok (.aload_n 0, 1) := by decide +kernel
theorem dX8_carryOutItem_26 : decode cX8_carryOutItem 26 = .ok (.iload_n 2, 1) := by decide +kernel
theorem dX8_carryOutItem_27 : decode cX8_carryOutItem 27 = .ok (.ldc 53, 2) := by decide +kernel
theorem dX8_carryOutItem_29 : decode cX8_carryOutItem 29 = .ok (.invokevirtual 46, 3) := by decide +kernel
theorem dX8_carryOutItem_32 : decode cX8_carryOutItem 32 = .ok (.ifCond .eq 9, 3) := by decide +kernel
theorem dX8_carryOutItem_35 : decode cX8_carryOutItem 35 = .ok (.aload_n 0, 1) := by decide +kernel
theorem dX8_carryOutItem_36 : decode cX8_carryOutItem 36 = .ok (.aload_n 1, 1) := by decide +kernel
theorem dX8_carryOutItem_37 : decode cX8_carryOutItem 37 = .ok (.invokevirtual 55, 3) := by decide +kernel
theorem dX8_carryOutItem_40 : decode cX8_carryOutItem 40 = .ok (.ireturn, 1) := by decide +kernel
theorem dX8_carryOutItem_41 : decode cX8_carryOutItem 41 = .ok (.aload_n 0, 1) := by decide +kernel
theorem dX8_carryOutItem_42 : decode cX8_carryOutItem 42 = .ok (.iload_n 2, 1) := by decide +kernel
theorem dX8_carryOutItem_43 : decode cX8_carryOutItem 43 = .ok (.ldc 58, 2) := by decide +kernel
theorem dX8_carryOutItem_45 : decode cX8_carryOutItem 45 = .ok (.invokevirtual 46, 3) := by decide +kernel
theorem dX8_carryOutItem_48 : decode cX8_carryOutItem 48 = .ok (.ifCond .eq 9, 3) := by decide +kernel
theorem dX8_carryOutItem_51 : decode cX8_carryOutItem 51 = .ok (.aload_n 0, 1) := by decide +kernel
theorem dX8_carryOutItem_52 : decode cX8_carryOutItem 52 = .ok (.aload_n 1, 1) := by decide +kernel
theorem dX8_carryOutItem_53 : decode cX8_carryOutItem 53 = .ok (.invokevirtual 60, 3) := by decide +kernel
theorem dX8_carryOutItem_56 : decode cX8_carryOutItem 56 = .ok (.ireturn, 1) := by decide +kernel
theorem dX8_carryOutItem_57 : decode cX8_carryOutItem 57 = .ok (.aload_n 0, 1) := by decide +kernel
theorem dX8_carryOutItem_58 : decode cX8_carryOutItem 58 = .ok (.iload_n 2, 1) := by decide +kernel
theorem dX8_carryOutItem_59 : decode cX8_carryOutItem 59 = .ok (.ldc 63, 2) := by decide +kernel
theorem dX8_carryOutItem_61 : decode cX8_carryOutItem 61 = .ok (.invokevirtual 46, 3) := by decide +kernel
theorem dX8_carryOutItem_64 : decode cX8_carryOutItem 64 = .ok (.ifCond .eq 9, 3) := by decide +kernel
theorem dX8_carryOutItem_67 : decode cX8_carryOutItem 67 = .ok (.aload_n 0, 1) := by decide +kernel
theorem dX8_carryOutItem_68 : decode cX8_carryOutItem 68 = .ok (.aload_n 1, 1) := by decide +kernel
theorem dX8_carryOutItem_69 : decode cX8_carryOutItem 69 = .ok (.invokevirtual 65, 3) := by decide +kernel
theorem dX8_carryOutItem_72 : decode cX8_carryOutItem 72 = .ok (.ireturn, 1) := by decide +kernel
theorem dX8_carryOutItem_73 : decode cX8_carryOutItem 73 = .ok (.aload_n 0, 1) := by decide +kernel
theorem dX8_carryOutItem_74 : decode cX8_carryOutItem 74 = .ok (.iload_n 2, 1) := by decide +kernel
theorem dX8_carryOutItem_75 : decode cX8_carryOutItem 75 = .ok (.ldc 68, 2) := by decide +kernel
theorem dX8_carryOutItem_77 : decode cX8_carryOutItem 77 = .ok (.invokevirtual 46, 3) := by decide +kernel
theorem dX8_carryOutItem_80 : decode cX8_carryOutItem 80 = .ok (.ifCond .eq 9, 3) := by decide +kernel
theorem dX8_carryOutItem_83 : decode cX8_carryOutItem 83 = .ok (.aload_n 0, 1) := by decide +kernel
theorem dX8_carryOutItem_84 : decode cX8_carryOutItem 84 = .ok (.aload_n 1, 1) := by decide +kernel
theorem dX8_carryOutItem_85 : decode cX8_carryOutItem 85 = .ok (.invokevirtual 70, 3) := by decide +kernel
theorem dX8_carryOutItem_88 : decode cX8_carryOutItem 88 = .ok (.ireturn, 1) := by decide +kernel
theorem dX8_carryOutItem_89 : decode cX8_carryOutItem 89 = .ok (.aload_n 0, 1) := by decide +kernel
theorem dX8_carryOutItem_90 : decode cX8_carryOutItem 90 = .ok (.iload_n 2, 1) := by decide +kernel
theorem dX8_carryOutItem_91 : decode cX8_carryOutItem 91 = .ok (.ldc 73, 2) := by decide +kernel
theorem dX8_carryOutItem_93 : decode cX8_carryOutItem 93 = .ok (.invokevirtual 46, 3) := by decide +kernel
theorem dX8_carryOutItem_96 : decode cX8_carryOutItem 96 = .ok (.ifCond .eq 11, 3) := by decide +kernel
theorem dX8_carryOutItem_99 : decode cX8_carryOutItem 99 = .ok (.aload_n 0, 1) := by decide +kernel
theorem dX8_carryOutItem_100 : decode cX8_carryOutItem 100 = .ok (.aload_n 1, 1) := by decide +kernel
theorem dX8_carryOutItem_101 : decode cX8_carryOutItem 101 = .ok (.invokevirtual 75, 3) := by decide +kernel
theorem dX8_carryOutItem_104 : decode cX8_carryOutItem 104 = .ok (.goto 4, 3) := by decide +kernel
theorem dX8_carryOutItem_107 : decode cX8_carryOutItem 107 = .ok (.iconst 1, 1) := by decide +kernel
theorem dX8_carryOutItem_108 : decode cX8_carryOutItem 108 = .ok (.ireturn, 1) := by decide +kernel
set_option maxRecDepth 20000 in
theorem ggX8_carryOutSector_X8_readColor : GoodIn wsX8_carryOutSector wsX8_readColor := goodIn_r _ [5, 6, 7, 8, 9, 4, 10, 11, 12, 13, 14, 15, 16, 17, 18, 19, 20, 21, 22, 23, 24, 25, 26, 27, 28, 29, 30, 31, 32, 33, 34, 35, 36, 37, 38, 39, 40, 41, 42, 43, 44, 45, 46, 47, 48, 49, 50, 51, 52, 53, 54, 55, 56, 57, 58, 59, 60, 61, 62, 63, 64, 65, 66, 67, 68, 69, 70, 71, 72, 73, 92, 93, 94, 95, 96, 97, 98] (by decide +kernel) (by decide +kernel)
set_option maxRecDepth 20000 in
theorem gX8_carryOutSector_X8_readColor : GoodIn wsX8_carryOutSector (wsV RX8 78 RX8 yX8_readColor wsX8_readColor) := goodIn_app (goodIn_of _ (by decide +kernel)) ggX8_carryOutSector_X8_readColor
set_option maxRecDepth 20000 in
theorem ggX8_carryOutSector_X8_readNumber : GoodIn wsX8_carryOutSector wsX8_readNumber := goodIn_r _ [77, 6, 7, 8, 9, 4, 10, 11, 12, 13, 14, 15, 16, 92, 93, 94, 95, 96, 97, 98] (by decide +kernel) (by decide +kernel)
set_option maxRecDepth 20000 in
theorem gX8_carryOutSector_X8_readNumber : GoodIn wsX8_carryOutSector (wsV RX8 82 RX8 yX8_readNumber wsX8_readNumber) := goodIn_app (goodIn_of _ (by decide +kernel)) ggX8_carryOutSector_X8_readNumber
set_option maxRecDepth 20000 in
theorem ggX8_carryOutSector_X8_skips : GoodIn wsX8_carryOutSector wsX8_skips := goodIn_r _ [10, 6, 11, 12, 13, 4, 14, 15, 16, 92, 93, 94, 95, 96, 97, 98] (by decide +kernel) (by decide +kernel)
set_option maxRecDepth 20000 in
theorem gX8_carryOutSector_X8_skips : GoodIn wsX8_carryOutSector (wsV RX8 87 RX8 yX8_skips wsX8_skips) := goodIn_app (goodIn_of _ (by decide +kernel)) ggX8_carryOutSector_X8_skips
set_option maxRecDepth 20000 in
theorem ggX8_carryOutSector_X2_give : GoodIn wsX8_carryOutSector wsX2_give := goodIn_r _ [82, 83, 99] (by decide +kernel) (by decide +kernel)
set_option maxRecDepth 20000 in
theorem gX8_carryOutSector_X2_give : GoodIn wsX8_carryOutSector (wsV RX8 97 RX2 yX2_give wsX2_give) := goodIn_app (goodIn_of _ (by decide +kernel)) ggX8_carryOutSector_X2_give
theorem dX8_carryOutSector_0 : decode cX8_carryOutSector 0 = .ok (.aload_n 0, 1) := by decide +kernel
theorem dX8_carryOutSector_1 : decode cX8_carryOutSector 1 = .ok (.invokevirtual 78, 3) := by decide +kernel
theorem dX8_carryOutSector_4 : decode cX8_carryOutSector 4 = .ok (.istore_n 2, 1) := by decide +kernel
theorem dX8_carryOutSector_5 : decode cX8_carryOutSector 5 = .ok (.iload_n 2, 1) := by decide +kernel
theorem dX8_carryOutSector_6 : decode cX8_carryOutSector 6 = .ok (.iconst (-1), 1) := by decide +kernel
theorem dX8_carryOutSector_7 : decode cX8_carryOutSector 7 = .ok (.if_icmp .ne 5, 3) := by decide +kernel
theorem dX8_carryOutSector_10 : decode cX8_carryOutSector 10 = .ok (.iconst 1, 1) := by decide +kernel
theorem dX8_carryOutSector_11 : decode cX8_carryOutSector 11 = .ok (.ireturn, 1) := by decide +kernel
theorem dX8_carryOutSector_12 : decode cX8_carryOutSector 12 = .ok (.aload_n 0, 1) := by decide +kernel
theorem dX8_carryOutSector_13 : decode cX8_carryOutSector 13 = .ok (.invokevirtual 82, 3) := by decide +kernel
theorem dX8_carryOutSector_16 : decode cX8_carryOutSector 16 = .ok (.istore_n 3, 1) := by decide +kernel
theorem dX8_carryOutSector_17 : decode cX8_carryOutSector 17 = .ok (.aload_n 0, 1) := by decide +kernel
theorem dX8_carryOutSector_18 : decode cX8_carryOutSector 18 = .ok (.invokevirtual 82, 3) := by decide +kernel
theorem dX8_carryOutSector_21 : decode cX8_carryOutSector 21 = .ok (.istore 4, 2) := by decide +kernel
theorem dX8_carryOutSector_23 : decode cX8_carryOutSector 23 = .ok (.iload_n 3, 1) := by decide +kernel
theorem dX8_carryOutSector_24 : decode cX8_carryOutSector 24 = .ok (.iconst (-1), 1) := by decide +kernel
theorem dX8_carryOutSector_25 : decode cX8_carryOutSector 25 = .ok (.if_icmp .eq 9, 3) := by decide +kernel
theorem dX8_carryOutSector_28 : decode cX8_carryOutSector 28 = .ok (.iload 4, 2) := by decide +kernel
theorem dX8_carryOutSector_30 : decode cX8_carryOutSector 30 = .ok (.iconst (-1), 1) := by decide +kernel
theorem dX8_carryOutSector_31 : decode cX8_carryOutSector 31 = .ok (.if_icmp .ne 5, 3) := by decide +kernel
theorem dX8_carryOutSector_34 : decode cX8_carryOutSector 34 = .ok (.iconst 2, 1) := by decide +kernel
theorem dX8_carryOutSector_35 : decode cX8_carryOutSector 35 = .ok (.ireturn, 1) := by decide +kernel
theorem dX8_carryOutSector_36 : decode cX8_carryOutSector 36 = .ok (.iload_n 3, 1) := by decide +kernel
theorem dX8_carryOutSector_37 : decode cX8_carryOutSector 37 = .ok (.bipush 64, 2) := by decide +kernel
theorem dX8_carryOutSector_39 : decode cX8_carryOutSector 39 = .ok (.if_icmp .ge 10, 3) := by decide +kernel
theorem dX8_carryOutSector_42 : decode cX8_carryOutSector 42 = .ok (.iload 4, 2) := by decide +kernel
theorem dX8_carryOutSector_44 : decode cX8_carryOutSector 44 = .ok (.bipush 64, 2) := by decide +kernel
theorem dX8_carryOutSector_46 : decode cX8_carryOutSector 46 = .ok (.if_icmp .lt 5, 3) := by decide +kernel
theorem dX8_carryOutSector_49 : decode cX8_carryOutSector 49 = .ok (.iconst 3, 1) := by decide +kernel
theorem dX8_carryOutSector_50 : decode cX8_carryOutSector 50 = .ok (.ireturn, 1) := by decide +kernel
theorem dX8_carryOutSector_51 : decode cX8_carryOutSector 51 = .ok (.aload_n 0, 1) := by decide +kernel
theorem dX8_carryOutSector_52 : decode cX8_carryOutSector 52 = .ok (.bipush 59, 2) := by decide +kernel
theorem dX8_carryOutSector_54 : decode cX8_carryOutSector 54 = .ok (.invokevirtual 87, 3) := by decide +kernel
theorem dX8_carryOutSector_57 : decode cX8_carryOutSector 57 = .ok (.ifCond .ne 6, 3) := by decide +kernel
theorem dX8_carryOutSector_60 : decode cX8_carryOutSector 60 = .ok (.bipush 6, 2) := by decide +kernel
theorem dX8_carryOutSector_62 : decode cX8_carryOutSector 62 = .ok (.ireturn, 1) := by decide +kernel
theorem dX8_carryOutSector_63 : decode cX8_carryOutSector 63 = .ok (.aload_n 1, 1) := by decide +kernel
theorem dX8_carryOutSector_64 : decode cX8_carryOutSector 64 = .ok (.getfield 91, 3) := by decide +kernel
theorem dX8_carryOutSector_67 : decode cX8_carryOutSector 67 = .ok (.iload_n 2, 1) := by decide +kernel
theorem dX8_carryOutSector_68 : decode cX8_carryOutSector 68 = .ok (.iload_n 3, 1) := by decide +kernel
theorem dX8_carryOutSector_69 : decode cX8_carryOutSector 69 = .ok (.iload 4, 2) := by decide +kernel
theorem dX8_carryOutSector_71 : decode cX8_carryOutSector 71 = .ok (.invokevirtual 97, 3) := by decide +kernel
theorem dX8_carryOutSector_74 : decode cX8_carryOutSector 74 = .ok (.pop, 1) := by decide +kernel
theorem dX8_carryOutSector_75 : decode cX8_carryOutSector 75 = .ok (.iconst 0, 1) := by decide +kernel
theorem dX8_carryOutSector_76 : decode cX8_carryOutSector 76 = .ok (.ireturn, 1) := by decide +kernel
set_option maxRecDepth 20000 in
theorem ggX8_carryOutCode_X8_signAt : GoodIn wsX8_carryOutCode wsX8_signAt := goodIn_r _ [7, 8, 9, 32, 33, 34, 35, 36, 37, 38] (by decide +kernel) (by decide +kernel)
set_option maxRecDepth 20000 in
theorem gX8_carryOutCode_X8_signAt : GoodIn wsX8_carryOutCode (wsV RX8 103 RX8 yX8_signAt wsX8_signAt) := goodIn_app (goodIn_of _ (by decide +kernel)) ggX8_carryOutCode_X8_signAt
set_option maxRecDepth 20000 in
theorem ggX8_carryOutCode_X8_readNumber : GoodIn wsX8_carryOutCode wsX8_readNumber := goodIn_r _ [13, 1, 14, 15, 16, 6, 17, 3, 4, 5, 7, 8, 9, 32, 33, 34, 35, 36, 37, 38] (by decide +kernel) (by decide +kernel)
set_option maxRecDepth 20000 in
theorem gX8_carryOutCode_X8_readNumber : GoodIn wsX8_carryOutCode (wsV RX8 82 RX8 yX8_readNumber wsX8_readNumber) := goodIn_app (goodIn_of _ (by decide +kernel)) ggX8_carryOutCode_X8_readNumber
set_option maxRecDepth 20000 in
theorem ggX8_carryOutCode_X8_skips : GoodIn wsX8_carryOutCode wsX8_skips := goodIn_r _ [17, 1, 3, 4, 5, 6, 7, 8, 9, 32, 33, 34, 35, 36, 37, 38] (by decide +kernel) (by decide +kernel)
set_option maxRecDepth 20000 in
theorem gX8_carryOutCode_X8_skips : GoodIn wsX8_carryOutCode (wsV RX8 87 RX8 yX8_skips wsX8_skips) := goodIn_app (goodIn_of _ (by decide +kernel)) ggX8_carryOutCode_X8_skips
set_option maxRecDepth 20000 in
theorem ggX8_carryOutCode_X4_drop : GoodIn wsX8_carryOutCode wsX4_drop := goodIn_r _ [22, 23, 24, 25, 47, 48, 49, 50, 51] (by decide +kernel) (by decide +kernel)
set_option maxRecDepth 20000 in
theorem gX8_carryOutCode_X4_drop : GoodIn wsX8_carryOutCode (wsV RX8 111 RX4 yX4_drop wsX4_drop) := goodIn_app (goodIn_of _ (by decide +kernel)) ggX8_carryOutCode_X4_drop
set_option maxRecDepth 20000 in
theorem ggX8_carryOutCode_X4_append : GoodIn wsX8_carryOutCode wsX4_append := goodIn_r _ [29, 23, 30, 31, 24, 25, 47, 48, 49, 50, 51] (by decide +kernel) (by decide +kernel)
set_option maxRecDepth 20000 in
theorem gX8_carryOutCode_X4_append : GoodIn wsX8_carryOutCode (wsV RX8 114 RX4 yX4_append wsX4_append) := goodIn_app (goodIn_of _ (by decide +kernel)) ggX8_carryOutCode_X4_append
theorem dX8_carryOutCode_0 : decode cX8_carryOutCode 0 = .ok (.iconst 0, 1) := by decide +kernel
theorem dX8_carryOutCode_1 : decode cX8_carryOutCode 1 = .ok (.istore_n 2, 1) := by decide +kernel
theorem dX8_carryOutCode_2 : decode cX8_carryOutCode 2 = .ok (.iconst 1, 1) := by decide +kernel
theorem dX8_carryOutCode_3 : decode cX8_carryOutCode 3 = .ok (.istore_n 3, 1) := by decide +kernel
theorem dX8_carryOutCode_4 : decode cX8_carryOutCode 4 = .ok (.iconst 0, 1) := by decide +kernel
theorem dX8_carryOutCode_5 : decode cX8_carryOutCode 5 = .ok (.istore 4, 2) := by decide +kernel
theorem dX8_carryOutCode_7 : decode cX8_carryOutCode 7 = .ok (.iload 4, 2) := by decide +kernel
theorem dX8_carryOutCode_9 : decode cX8_carryOutCode 9 = .ok (.bipush 120, 2) := by decide +kernel
theorem dX8_carryOutCode_11 : decode cX8_carryOutCode 11 = .ok (.if_icmp .ge 85, 3) := by decide +kernel
theorem dX8_carryOutCode_14 : decode cX8_carryOutCode 14 = .ok (.aload_n 0, 1) := by decide +kernel
theorem dX8_carryOutCode_15 : decode cX8_carryOutCode 15 = .ok (.aload_n 0, 1) := by decide +kernel
theorem dX8_carryOutCode_16 : decode cX8_carryOutCode 16 = .ok (.getfield 25, 3) := by decide +kernel
theorem dX8_carryOutCode_19 : decode cX8_carryOutCode 19 = .ok (.invokevirtual 103, 3) := by decide +kernel
theorem dX8_carryOutCode_22 : decode cX8_carryOutCode 22 = .ok (.bipush 32, 2) := by decide +kernel
theorem dX8_carryOutCode_24 : decode cX8_carryOutCode 24 = .ok (.if_icmp .ne 72, 3) := by decide +kernel
theorem dX8_carryOutCode_27 : decode cX8_carryOutCode 27 = .ok (.aload_n 0, 1) := by decide +kernel
theorem dX8_carryOutCode_28 : decode cX8_carryOutCode 28 = .ok (.invokevirtual 82, 3) := by decide +kernel
theorem dX8_carryOutCode_31 : decode cX8_carryOutCode 31 = .ok (.istore 5, 2) := by decide +kernel
theorem dX8_carryOutCode_33 : decode cX8_carryOutCode 33 = .ok (.iload 5, 2) := by decide +kernel
theorem dX8_carryOutCode_35 : decode cX8_carryOutCode 35 = .ok (.iconst (-1), 1) := by decide +kernel
theorem dX8_carryOutCode_36 : decode cX8_carryOutCode 36 = .ok (.if_icmp .ne 5, 3) := by decide +kernel
theorem dX8_carryOutCode_39 : decode cX8_carryOutCode 39 = .ok (.iconst 2, 1) := by decide +kernel
theorem dX8_carryOutCode_40 : decode cX8_carryOutCode 40 = .ok (.ireturn, 1) := by decide +kernel
theorem dX8_carryOutCode_41 : decode cX8_carryOutCode 41 = .ok (.iload_n 2, 1) := by decide +kernel
theorem dX8_carryOutCode_42 : decode cX8_carryOutCode 42 = .ok (.iconst 2, 1) := by decide +kernel
theorem dX8_carryOutCode_43 : decode cX8_carryOutCode 43 = .ok (.irem, 1) := by decide +kernel
theorem dX8_carryOutCode_44 : decode cX8_carryOutCode 44 = .ok (.ifCond .ne 7, 3) := by decide +kernel
theorem dX8_carryOutCode_47 : decode cX8_carryOutCode 47 = .ok (.iconst 1, 1) := by decide +kernel
theorem dX8_carryOutCode_48 : decode cX8_carryOutCode 48 = .ok (.goto 4, 3) := by decide +kernel
theorem dX8_carryOutCode_51 : decode cX8_carryOutCode 51 = .ok (.iconst 0, 1) := by decide +kernel
theorem dX8_carryOutCode_52 : decode cX8_carryOutCode 52 = .ok (.istore 6, 2) := by decide +kernel
theorem dX8_carryOutCode_54 : decode cX8_carryOutCode 54 = .ok (.iload 5, 2) := by decide +kernel
theorem dX8_carryOutCode_56 : decode cX8_carryOutCode 56 = .ok (.iload 6, 2) := by decide +kernel
theorem dX8_carryOutCode_58 : decode cX8_carryOutCode 58 = .ok (.if_icmp .lt 10, 3) := by decide +kernel
theorem dX8_carryOutCode_61 : decode cX8_carryOutCode 61 = .ok (.iload 5, 2) := by decide +kernel
theorem dX8_carryOutCode_63 : decode cX8_carryOutCode 63 = .ok (.bipush 60, 2) := by decide +kernel
theorem dX8_carryOutCode_65 : decode cX8_carryOutCode 65 = .ok (.if_icmp .le 5, 3) := by decide +kernel
theorem dX8_carryOutCode_68 : decode cX8_carryOutCode 68 = .ok (.iconst 0, 1) := by decide +kernel
theorem dX8_carryOutCode_69 : decode cX8_carryOutCode 69 = .ok (.istore_n 3, 1) := by decide +kernel
theorem dX8_carryOutCode_70 : decode cX8_carryOutCode 70 = .ok (.iload_n 2, 1) := by decide +kernel
theorem dX8_carryOutCode_71 : decode cX8_carryOutCode 71 = .ok (.aload_n 0, 1) := by decide +kernel
theorem dX8_carryOutCode_72 : decode cX8_carryOutCode 72 = .ok (.getfield 17, 3) := by decide +kernel
theorem dX8_carryOutCode_75 : decode cX8_carryOutCode 75 = .ok (.arraylength, 1) := by decide +kernel
theorem dX8_carryOutCode_76 : decode cX8_carryOutCode 76 = .ok (.if_icmp .ge 11, 3) := by decide +kernel
theorem dX8_carryOutCode_79 : decode cX8_carryOutCode 79 = .ok (.aload_n 0, 1) := by decide +kernel
theorem dX8_carryOutCode_80 : decode cX8_carryOutCode 80 = .ok (.getfield 17, 3) := by decide +kernel
theorem dX8_carryOutCode_83 : decode cX8_carryOutCode 83 = .ok (.iload_n 2, 1) := by decide +kernel
theorem dX8_carryOutCode_84 : decode cX8_carryOutCode 84 = .ok (.iload 5, 2) := by decide +kernel
theorem dX8_carryOutCode_86 : decode cX8_carryOutCode 86 = .ok (.iastore, 1) := by decide +kernel
theorem dX8_carryOutCode_87 : decode cX8_carryOutCode 87 = .ok (.iinc 2 1, 3) := by decide +kernel
theorem dX8_carryOutCode_90 : decode cX8_carryOutCode 90 = .ok (.iinc 4 1, 3) := by decide +kernel
theorem dX8_carryOutCode_93 : decode cX8_carryOutCode 93 = .ok (.goto (-86), 3) := by decide +kernel
theorem dX8_carryOutCode_96 : decode cX8_carryOutCode 96 = .ok (.iload_n 2, 1) := by decide +kernel
theorem dX8_carryOutCode_97 : decode cX8_carryOutCode 97 = .ok (.ifCond .eq 10, 3) := by decide +kernel
theorem dX8_carryOutCode_100 : decode cX8_carryOutCode 100 = .ok (.iload_n 2, 1) := by decide +kernel
theorem dX8_carryOutCode_101 : decode cX8_carryOutCode 101 = .ok (.iconst 2, 1) := by decide +kernel
theorem dX8_carryOutCode_102 : decode cX8_carryOutCode 102 = .ok (.irem, 1) := by decide +kernel
theorem dX8_carryOutCode_103 : decode cX8_carryOutCode 103 = .ok (.iconst 1, 1) := by decide +kernel
theorem dX8_carryOutCode_104 : decode cX8_carryOutCode 104 = .ok (.if_icmp .ne 5, 3) := by decide +kernel
theorem dX8_carryOutCode_107 : decode cX8_carryOutCode 107 = .ok (.iconst 2, 1) := by decide +kernel
theorem dX8_carryOutCode_108 : decode cX8_carryOutCode 108 = .ok (.ireturn, 1) := by decide +kernel
theorem dX8_carryOutCode_109 : decode cX8_carryOutCode 109 = .ok (.iload_n 3, 1) := by decide +kernel
theorem dX8_carryOutCode_110 : decode cX8_carryOutCode 110 = .ok (.ifCond .ne 5, 3) := by decide +kernel
theorem dX8_carryOutCode_113 : decode cX8_carryOutCode 113 = .ok (.iconst 3, 1) := by decide +kernel
theorem dX8_carryOutCode_114 : decode cX8_carryOutCode 114 = .ok (.ireturn, 1) := by decide +kernel
theorem dX8_carryOutCode_115 : decode cX8_carryOutCode 115 = .ok (.iload_n 2, 1) := by decide +kernel
theorem dX8_carryOutCode_116 : decode cX8_carryOutCode 116 = .ok (.bipush 16, 2) := by decide +kernel
theorem dX8_carryOutCode_118 : decode cX8_carryOutCode 118 = .ok (.if_icmp .le 5, 3) := by decide +kernel
theorem dX8_carryOutCode_121 : decode cX8_carryOutCode 121 = .ok (.iconst 5, 1) := by decide +kernel
theorem dX8_carryOutCode_122 : decode cX8_carryOutCode 122 = .ok (.ireturn, 1) := by decide +kernel
theorem dX8_carryOutCode_123 : decode cX8_carryOutCode 123 = .ok (.aload_n 0, 1) := by decide +kernel
theorem dX8_carryOutCode_124 : decode cX8_carryOutCode 124 = .ok (.bipush 59, 2) := by decide +kernel
theorem dX8_carryOutCode_126 : decode cX8_carryOutCode 126 = .ok (.invokevirtual 87, 3) := by decide +kernel
theorem dX8_carryOutCode_129 : decode cX8_carryOutCode 129 = .ok (.ifCond .ne 6, 3) := by decide +kernel
theorem dX8_carryOutCode_132 : decode cX8_carryOutCode 132 = .ok (.bipush 6, 2) := by decide +kernel
theorem dX8_carryOutCode_134 : decode cX8_carryOutCode 134 = .ok (.ireturn, 1) := by decide +kernel
theorem dX8_carryOutCode_135 : decode cX8_carryOutCode 135 = .ok (.aload_n 1, 1) := by decide +kernel
theorem dX8_carryOutCode_136 : decode cX8_carryOutCode 136 = .ok (.getfield 107, 3) := by decide +kernel
theorem dX8_carryOutCode_139 : decode cX8_carryOutCode 139 = .ok (.invokevirtual 111, 3) := by decide +kernel
theorem dX8_carryOutCode_142 : decode cX8_carryOutCode 142 = .ok (.iconst 0, 1) := by decide +kernel
theorem dX8_carryOutCode_143 : decode cX8_carryOutCode 143 = .ok (.istore 4, 2) := by decide +kernel
theorem dX8_carryOutCode_145 : decode cX8_carryOutCode 145 = .ok (.iload 4, 2) := by decide +kernel
theorem dX8_carryOutCode_147 : decode cX8_carryOutCode 147 = .ok (.iconst 1, 1) := by decide +kernel
theorem dX8_carryOutCode_148 : decode cX8_carryOutCode 148 = .ok (.iadd, 1) := by decide +kernel
theorem dX8_carryOutCode_149 : decode cX8_carryOutCode 149 = .ok (.iload_n 2, 1) := by decide +kernel
theorem dX8_carryOutCode_150 : decode cX8_carryOutCode 150 = .ok (.if_icmp .ge 44, 3) := by decide +kernel
theorem dX8_carryOutCode_153 : decode cX8_carryOutCode 153 = .ok (.iload 4, 2) := by decide +kernel
theorem dX8_carryOutCode_155 : decode cX8_carryOutCode 155 = .ok (.iconst 1, 1) := by decide +kernel
theorem dX8_carryOutCode_156 : decode cX8_carryOutCode 156 = .ok (.iadd, 1) := by decide +kernel
theorem dX8_carryOutCode_157 : decode cX8_carryOutCode 157 = .ok (.aload_n 0, 1) := by decide +kernel
theorem dX8_carryOutCode_158 : decode cX8_carryOutCode 158 = .ok (.getfield 17, 3) := by decide +kernel
theorem dX8_carryOutCode_161 : decode cX8_carryOutCode 161 = .ok (.arraylength, 1) := by decide +kernel
theorem dX8_carryOutCode_162 : decode cX8_carryOutCode 162 = .ok (.if_icmp .ge 32, 3) := by decide +kernel
theorem dX8_carryOutCode_165 : decode cX8_carryOutCode 165 = .ok (.aload_n 1, 1) := by decide +kernel
theorem dX8_carryOutCode_166 : decode cX8_carryOutCode 166 = .ok (.getfield 107, 3) := by decide +kernel
theorem dX8_carryOutCode_169 : decode cX8_carryOutCode 169 = .ok (.aload_n 0, 1) := by decide +kernel
theorem dX8_carryOutCode_170 : decode cX8_carryOutCode 170 = .ok (.getfield 17, 3) := by decide +kernel
theorem dX8_carryOutCode_173 : decode cX8_carryOutCode 173 = .ok (.iload 4, 2) := by decide +kernel
theorem dX8_carryOutCode_175 : decode cX8_carryOutCode 175 = .ok (.iaload, 1) := by decide +kernel
theorem dX8_carryOutCode_176 : decode cX8_carryOutCode 176 = .ok (.aload_n 0, 1) := by decide +kernel
theorem dX8_carryOutCode_177 : decode cX8_carryOutCode 177 = .ok (.getfield 17, 3) := by decide +kernel
theorem dX8_carryOutCode_180 : decode cX8_carryOutCode 180 = .ok (.iload 4, 2) := by decide +kernel
theorem dX8_carryOutCode_182 : decode cX8_carryOutCode 182 = .ok (.iconst 1, 1) := by decide +kernel
theorem dX8_carryOutCode_183 : decode cX8_carryOutCode 183 = .ok (.iadd, 1) := by decide +kernel
theorem dX8_carryOutCode_184 : decode cX8_carryOutCode 184 = .ok (.iaload, 1) := by decide +kernel
theorem dX8_carryOutCode_185 : decode cX8_carryOutCode 185 = .ok (.invokevirtual 114, 3) := by decide +kernel
theorem dX8_carryOutCode_188 : decode cX8_carryOutCode 188 = .ok (.iinc 4 2, 3) := by decide +kernel
theorem dX8_carryOutCode_191 : decode cX8_carryOutCode 191 = .ok (.goto (-46), 3) := by decide +kernel
theorem dX8_carryOutCode_194 : decode cX8_carryOutCode 194 = .ok (.iconst 0, 1) := by decide +kernel
theorem dX8_carryOutCode_195 : decode cX8_carryOutCode 195 = .ok (.ireturn, 1) := by decide +kernel
set_option maxRecDepth 20000 in
theorem ggX8_carryOutChanger_X8_readEither : GoodIn wsX8_carryOutChanger wsX8_readEither := goodIn_r _ [5, 6, 7, 8, 9, 4, 10, 11, 12, 13, 14, 15, 16, 17, 18, 19, 20, 21, 22, 23, 24, 25, 26, 27, 28, 29, 30, 31, 32, 33, 34, 35, 36, 37, 38, 39, 40, 41, 42, 43, 44, 45, 46, 47, 48, 49, 50, 51, 52, 53, 54, 55, 56, 57, 58, 59, 60, 61, 62, 63, 64, 65, 66, 67, 68, 69, 70, 71, 72, 73, 100, 101, 102, 103, 104, 105, 106] (by decide +kernel) (by decide +kernel)
set_option maxRecDepth 20000 in
theorem gX8_carryOutChanger_X8_readEither : GoodIn wsX8_carryOutChanger (wsV RX8 122 RX8 yX8_readEither wsX8_readEither) := goodIn_app (goodIn_of _ (by decide +kernel)) ggX8_carryOutChanger_X8_readEither
set_option maxRecDepth 20000 in
theorem ggX8_carryOutChanger_X8_skips : GoodIn wsX8_carryOutChanger wsX8_skips := goodIn_r _ [10, 6, 11, 12, 13, 4, 14, 15, 16, 100, 101, 102, 103, 104, 105, 106] (by decide +kernel) (by decide +kernel)
set_option maxRecDepth 20000 in
theorem gX8_carryOutChanger_X8_skips : GoodIn wsX8_carryOutChanger (wsV RX8 87 RX8 yX8_skips wsX8_skips) := goodIn_app (goodIn_of _ (by decide +kernel)) ggX8_carryOutChanger_X8_skips
set_option maxRecDepth 20000 in
theorem ggX8_carryOutChanger_X1_renew : GoodIn wsX8_carryOutChanger wsX1_renew := goodIn_r _ [78, 79, 80, 81, 82, 83, 84, 77, 85, 86, 87, 88, 89, 90, 91, 107, 108, 109, 110, 111, 112, 113] (by decide +kernel) (by decide +kernel)
set_option maxRecDepth 20000 in
theorem gX8_carryOutChanger_X1_renew : GoodIn wsX8_carryOutChanger (wsV RX8 129 RX1 yX1_renew wsX1_renew) := goodIn_app (goodIn_of _ (by decide +kernel)) ggX8_carryOutChanger_X1_renew
theorem dX8_carryOutChanger_0 : decode cX8_carryOutChanger 0 = .ok (.aload_n 0, 1) := by decide +kernel
theorem dX8_carryOutChanger_1 : decode cX8_carryOutChanger 1 = .ok (.ldc 118, 2) := by decide +kernel
theorem dX8_carryOutChanger_3 : decode cX8_carryOutChanger 3 = .ok (.ldc 120, 2) := by decide +kernel
theorem dX8_carryOutChanger_5 : decode cX8_carryOutChanger 5 = .ok (.invokevirtual 122, 3) := by decide +kernel
theorem dX8_carryOutChanger_8 : decode cX8_carryOutChanger 8 = .ok (.istore_n 2, 1) := by decide +kernel
theorem dX8_carryOutChanger_9 : decode cX8_carryOutChanger 9 = .ok (.iload_n 2, 1) := by decide +kernel
theorem dX8_carryOutChanger_10 : decode cX8_carryOutChanger 10 = .ok (.iconst (-1), 1) := by decide +kernel
theorem dX8_carryOutChanger_11 : decode cX8_carryOutChanger 11 = .ok (.if_icmp .ne 5, 3) := by decide +kernel
theorem dX8_carryOutChanger_14 : decode cX8_carryOutChanger 14 = .ok (.iconst 1, 1) := by decide +kernel
theorem dX8_carryOutChanger_15 : decode cX8_carryOutChanger 15 = .ok (.ireturn, 1) := by decide +kernel
theorem dX8_carryOutChanger_16 : decode cX8_carryOutChanger 16 = .ok (.aload_n 0, 1) := by decide +kernel
theorem dX8_carryOutChanger_17 : decode cX8_carryOutChanger 17 = .ok (.bipush 59, 2) := by decide +kernel
theorem dX8_carryOutChanger_19 : decode cX8_carryOutChanger 19 = .ok (.invokevirtual 87, 3) := by decide +kernel
theorem dX8_carryOutChanger_22 : decode cX8_carryOutChanger 22 = .ok (.ifCond .ne 6, 3) := by decide +kernel
theorem dX8_carryOutChanger_25 : decode cX8_carryOutChanger 25 = .ok (.bipush 6, 2) := by decide +kernel
theorem dX8_carryOutChanger_27 : decode cX8_carryOutChanger 27 = .ok (.ireturn, 1) := by decide +kernel
theorem dX8_carryOutChanger_28 : decode cX8_carryOutChanger 28 = .ok (.aload_n 1, 1) := by decide +kernel
theorem dX8_carryOutChanger_29 : decode cX8_carryOutChanger 29 = .ok (.getfield 126, 3) := by decide +kernel
theorem dX8_carryOutChanger_32 : decode cX8_carryOutChanger 32 = .ok (.iload_n 2, 1) := by decide +kernel
theorem dX8_carryOutChanger_33 : decode cX8_carryOutChanger 33 = .ok (.invokevirtual 129, 3) := by decide +kernel
theorem dX8_carryOutChanger_36 : decode cX8_carryOutChanger 36 = .ok (.iconst 0, 1) := by decide +kernel
theorem dX8_carryOutChanger_37 : decode cX8_carryOutChanger 37 = .ok (.ireturn, 1) := by decide +kernel
set_option maxRecDepth 20000 in
theorem ggX8_carryOutLamp_X8_readEither : GoodIn wsX8_carryOutLamp wsX8_readEither := goodIn_r _ [5, 6, 7, 8, 9, 4, 10, 11, 12, 13, 14, 15, 16, 17, 18, 19, 20, 21, 22, 23, 24, 25, 26, 27, 28, 29, 30, 31, 32, 33, 34, 35, 36, 37, 38, 39, 40, 41, 42, 43, 44, 45, 46, 47, 48, 49, 50, 51, 52, 53, 54, 55, 56, 57, 58, 59, 60, 61, 62, 63, 64, 65, 66, 67, 68, 69, 70, 71, 72, 73, 112, 113, 114, 115, 116, 117, 118] (by decide +kernel) (by decide +kernel)
set_option maxRecDepth 20000 in
theorem gX8_carryOutLamp_X8_readEither : GoodIn wsX8_carryOutLamp (wsV RX8 122 RX8 yX8_readEither wsX8_readEither) := goodIn_app (goodIn_of _ (by decide +kernel)) ggX8_carryOutLamp_X8_readEither
set_option maxRecDepth 20000 in
theorem ggX8_carryOutLamp_X8_readNumber : GoodIn wsX8_carryOutLamp wsX8_readNumber := goodIn_r _ [77, 6, 7, 8, 9, 4, 10, 11, 12, 13, 14, 15, 16, 112, 113, 114, 115, 116, 117, 118] (by decide +kernel) (by decide +kernel)
set_option maxRecDepth 20000 in
theorem gX8_carryOutLamp_X8_readNumber : GoodIn wsX8_carryOutLamp (wsV RX8 82 RX8 yX8_readNumber wsX8_readNumber) := goodIn_app (goodIn_of _ (by decide +kernel)) ggX8_carryOutLamp_X8_readNumber
set_option maxRecDepth 20000 in
theorem ggX8_carryOutLamp_X1_lowestEmpty : GoodIn wsX8_carryOutLamp wsX1_lowestEmpty := goodIn_r _ [82, 83, 84, 85, 81, 86, 87, 88, 89, 90, 105, 106, 107, 108, 109, 110, 111] (by decide +kernel) (by decide +kernel)
set_option maxRecDepth 20000 in
theorem gX8_carryOutLamp_X1_lowestEmpty : GoodIn wsX8_carryOutLamp (wsV RX8 142 RX1 yX1_lowestEmpty wsX1_lowestEmpty) := goodIn_app (goodIn_of _ (by decide +kernel)) ggX8_carryOutLamp_X1_lowestEmpty
set_option maxRecDepth 20000 in
theorem ggX8_carryOutLamp_X8_skips : GoodIn wsX8_carryOutLamp wsX8_skips := goodIn_r _ [10, 6, 11, 12, 13, 4, 14, 15, 16, 112, 113, 114, 115, 116, 117, 118] (by decide +kernel) (by decide +kernel)
set_option maxRecDepth 20000 in
theorem gX8_carryOutLamp_X8_skips : GoodIn wsX8_carryOutLamp (wsV RX8 87 RX8 yX8_skips wsX8_skips) := goodIn_app (goodIn_of _ (by decide +kernel)) ggX8_carryOutLamp_X8_skips
set_option maxRecDepth 20000 in
theorem ggX8_carryOutLamp_X1_insert : GoodIn wsX8_carryOutLamp wsX1_insert := goodIn_r _ [94, 95, 87, 96, 88, 89, 81, 90, 105, 106, 107, 108, 109, 110, 111] (by decide +kernel) (by decide +kernel)
set_option maxRecDepth 20000 in
theorem gX8_carryOutLamp_X1_insert : GoodIn wsX8_carryOutLamp (wsV RX8 145 RX1 yX1_insert wsX1_insert) := goodIn_app (goodIn_of _ (by decide +kernel)) ggX8_carryOutLamp_X1_insert
theorem dX8_carryOutLamp_0 : decode cX8_carryOutLamp 0 = .ok (.aload_n 0, 1) := by decide +kernel
theorem dX8_carryOutLamp_1 : decode cX8_carryOutLamp 1 = .ok (.ldc 135, 2) := by decide +kernel
theorem dX8_carryOutLamp_3 : decode cX8_carryOutLamp 3 = .ok (.ldc 137, 2) := by decide +kernel
theorem dX8_carryOutLamp_5 : decode cX8_carryOutLamp 5 = .ok (.invokevirtual 122, 3) := by decide +kernel
theorem dX8_carryOutLamp_8 : decode cX8_carryOutLamp 8 = .ok (.istore_n 2, 1) := by decide +kernel
theorem dX8_carryOutLamp_9 : decode cX8_carryOutLamp 9 = .ok (.iload_n 2, 1) := by decide +kernel
theorem dX8_carryOutLamp_10 : decode cX8_carryOutLamp 10 = .ok (.iconst (-1), 1) := by decide +kernel
theorem dX8_carryOutLamp_11 : decode cX8_carryOutLamp 11 = .ok (.if_icmp .ne 5, 3) := by decide +kernel
theorem dX8_carryOutLamp_14 : decode cX8_carryOutLamp 14 = .ok (.iconst 1, 1) := by decide +kernel
theorem dX8_carryOutLamp_15 : decode cX8_carryOutLamp 15 = .ok (.ireturn, 1) := by decide +kernel
theorem dX8_carryOutLamp_16 : decode cX8_carryOutLamp 16 = .ok (.aload_n 0, 1) := by decide +kernel
theorem dX8_carryOutLamp_17 : decode cX8_carryOutLamp 17 = .ok (.invokevirtual 82, 3) := by decide +kernel
theorem dX8_carryOutLamp_20 : decode cX8_carryOutLamp 20 = .ok (.istore_n 3, 1) := by decide +kernel
theorem dX8_carryOutLamp_21 : decode cX8_carryOutLamp 21 = .ok (.aload_n 0, 1) := by decide +kernel
theorem dX8_carryOutLamp_22 : decode cX8_carryOutLamp 22 = .ok (.invokevirtual 82, 3) := by decide +kernel
theorem dX8_carryOutLamp_25 : decode cX8_carryOutLamp 25 = .ok (.istore 4, 2) := by decide +kernel
theorem dX8_carryOutLamp_27 : decode cX8_carryOutLamp 27 = .ok (.iload_n 3, 1) := by decide +kernel
theorem dX8_carryOutLamp_28 : decode cX8_carryOutLamp 28 = .ok (.iconst (-1), 1) := by decide +kernel
theorem dX8_carryOutLamp_29 : decode cX8_carryOutLamp 29 = .ok (.if_icmp .eq 9, 3) := by decide +kernel
theorem dX8_carryOutLamp_32 : decode cX8_carryOutLamp 32 = .ok (.iload 4, 2) := by decide +kernel
theorem dX8_carryOutLamp_34 : decode cX8_carryOutLamp 34 = .ok (.iconst (-1), 1) := by decide +kernel
theorem dX8_carryOutLamp_35 : decode cX8_carryOutLamp 35 = .ok (.if_icmp .ne 5, 3) := by decide +kernel
theorem dX8_carryOutLamp_38 : decode cX8_carryOutLamp 38 = .ok (.iconst 2, 1) := by decide +kernel
theorem dX8_carryOutLamp_39 : decode cX8_carryOutLamp 39 = .ok (.ireturn, 1) := by decide +kernel
theorem dX8_carryOutLamp_40 : decode cX8_carryOutLamp 40 = .ok (.iload_n 3, 1) := by decide +kernel
theorem dX8_carryOutLamp_41 : decode cX8_carryOutLamp 41 = .ok (.iconst 1, 1) := by decide +kernel
theorem dX8_carryOutLamp_42 : decode cX8_carryOutLamp 42 = .ok (.if_icmp .lt 24, 3) := by decide +kernel
theorem dX8_carryOutLamp_45 : decode cX8_carryOutLamp 45 = .ok (.iload_n 3, 1) := by decide +kernel
theorem dX8_carryOutLamp_46 : decode cX8_carryOutLamp 46 = .ok (.sipush 2000, 3) := by decide +kernel
theorem dX8_carryOutLamp_49 : decode cX8_carryOutLamp 49 = .ok (.if_icmp .gt 17, 3) := by decide +kernel
theorem dX8_carryOutLamp_52 : decode cX8_carryOutLamp 52 = .ok (.iload 4, 2) := by decide +kernel
theorem dX8_carryOutLamp_54 : decode cX8_carryOutLamp 54 = .ok (.iconst 1, 1) := by decide +kernel
theorem dX8_carryOutLamp_55 : decode cX8_carryOutLamp 55 = .ok (.if_icmp .lt 11, 3) := by decide +kernel
theorem dX8_carryOutLamp_58 : decode cX8_carryOutLamp 58 = .ok (.iload 4, 2) := by decide +kernel
theorem dX8_carryOutLamp_60 : decode cX8_carryOutLamp 60 = .ok (.sipush 5000, 3) := by decide +kernel
theorem dX8_carryOutLamp_63 : decode cX8_carryOutLamp 63 = .ok (.if_icmp .le 5, 3) := by decide +kernel
theorem dX8_carryOutLamp_66 : decode cX8_carryOutLamp 66 = .ok (.iconst 3, 1) := by decide +kernel
theorem dX8_carryOutLamp_67 : decode cX8_carryOutLamp 67 = .ok (.ireturn, 1) := by decide +kernel
theorem dX8_carryOutLamp_68 : decode cX8_carryOutLamp 68 = .ok (.iload_n 2, 1) := by decide +kernel
theorem dX8_carryOutLamp_69 : decode cX8_carryOutLamp 69 = .ok (.aload_n 1, 1) := by decide +kernel
theorem dX8_carryOutLamp_70 : decode cX8_carryOutLamp 70 = .ok (.getfield 126, 3) := by decide +kernel
theorem dX8_carryOutLamp_73 : decode cX8_carryOutLamp 73 = .ok (.getfield 139, 3) := by decide +kernel
theorem dX8_carryOutLamp_76 : decode cX8_carryOutLamp 76 = .ok (.if_icmp .eq 5, 3) := by decide +kernel
theorem dX8_carryOutLamp_79 : decode cX8_carryOutLamp 79 = .ok (.iconst 4, 1) := by decide +kernel
theorem dX8_carryOutLamp_80 : decode cX8_carryOutLamp 80 = .ok (.ireturn, 1) := by decide +kernel
theorem dX8_carryOutLamp_81 : decode cX8_carryOutLamp 81 = .ok (.aload_n 1, 1) := by decide +kernel
theorem dX8_carryOutLamp_82 : decode cX8_carryOutLamp 82 = .ok (.getfield 126, 3) := by decide +kernel
theorem dX8_carryOutLamp_85 : decode cX8_carryOutLamp 85 = .ok (.invokevirtual 142, 3) := by decide +kernel
theorem dX8_carryOutLamp_88 : decode cX8_carryOutLamp 88 = .ok (.istore 5, 2) := by decide +kernel
theorem dX8_carryOutLamp_90 : decode cX8_carryOutLamp 90 = .ok (.iload 5, 2) := by decide +kernel
theorem dX8_carryOutLamp_92 : decode cX8_carryOutLamp 92 = .ok (.iconst (-1), 1) := by decide +kernel
theorem dX8_carryOutLamp_93 : decode cX8_carryOutLamp 93 = .ok (.if_icmp .ne 5, 3) := by decide +kernel
theorem dX8_carryOutLamp_96 : decode cX8_carryOutLamp 96 = .ok (.iconst 5, 1) := by decide +kernel
theorem dX8_carryOutLamp_97 : decode cX8_carryOutLamp 97 = .ok (.ireturn, 1) := by decide +kernel
theorem dX8_carryOutLamp_98 : decode cX8_carryOutLamp 98 = .ok (.aload_n 0, 1) := by decide +kernel
theorem dX8_carryOutLamp_99 : decode cX8_carryOutLamp 99 = .ok (.bipush 59, 2) := by decide +kernel
theorem dX8_carryOutLamp_101 : decode cX8_carryOutLamp 101 = .ok (.invokevirtual 87, 3) := by decide +kernel
theorem dX8_carryOutLamp_104 : decode cX8_carryOutLamp 104 = .ok (.ifCond .ne 6, 3) := by decide +kernel
theorem dX8_carryOutLamp_107 : decode cX8_carryOutLamp 107 = .ok (.bipush 6, 2) := by decide +kernel
theorem dX8_carryOutLamp_109 : decode cX8_carryOutLamp 109 = .ok (.ireturn, 1) := by decide +kernel
theorem dX8_carryOutLamp_110 : decode cX8_carryOutLamp 110 = .ok (.aload_n 1, 1) := by decide +kernel
theorem dX8_carryOutLamp_111 : decode cX8_carryOutLamp 111 = .ok (.getfield 126, 3) := by decide +kernel
theorem dX8_carryOutLamp_114 : decode cX8_carryOutLamp 114 = .ok (.iload 5, 2) := by decide +kernel
theorem dX8_carryOutLamp_116 : decode cX8_carryOutLamp 116 = .ok (.iload_n 3, 1) := by decide +kernel
theorem dX8_carryOutLamp_117 : decode cX8_carryOutLamp 117 = .ok (.iload 4, 2) := by decide +kernel
theorem dX8_carryOutLamp_119 : decode cX8_carryOutLamp 119 = .ok (.invokevirtual 145, 3) := by decide +kernel
theorem dX8_carryOutLamp_122 : decode cX8_carryOutLamp 122 = .ok (.iconst 0, 1) := by decide +kernel
theorem dX8_carryOutLamp_123 : decode cX8_carryOutLamp 123 = .ok (.ireturn, 1) := by decide +kernel
set_option maxRecDepth 20000 in
theorem ggX8_carryOutClear_X8_readNumber : GoodIn wsX8_carryOutClear wsX8_readNumber := goodIn_r _ [5, 6, 7, 8, 9, 4, 10, 11, 12, 13, 14, 15, 16, 29, 30, 31, 32, 33, 34, 35] (by decide +kernel) (by decide +kernel)
set_option maxRecDepth 20000 in
theorem gX8_carryOutClear_X8_readNumber : GoodIn wsX8_carryOutClear (wsV RX8 82 RX8 yX8_readNumber wsX8_readNumber) := goodIn_app (goodIn_of _ (by decide +kernel)) ggX8_carryOutClear_X8_readNumber
set_option maxRecDepth 20000 in
theorem ggX8_carryOutClear_X8_reasonOf : GoodIn wsX8_carryOutClear wsX8_reasonOf := goodIn_r _ [20, 7, 8, 9, 4, 10, 6, 11, 12, 13, 14, 15, 16, 29, 30, 31, 32, 33, 34, 35] (by decide +kernel) (by decide +kernel)
set_option maxRecDepth 20000 in
theorem gX8_carryOutClear_X8_reasonOf : GoodIn wsX8_carryOutClear (wsV RX8 149 RX8 yX8_reasonOf wsX8_reasonOf) := goodIn_app (goodIn_of _ (by decide +kernel)) ggX8_carryOutClear_X8_reasonOf
theorem dX8_carryOutClear_0 : decode cX8_carryOutClear 0 = .ok (.aload_n 0, 1) := by decide +kernel
theorem dX8_carryOutClear_1 : decode cX8_carryOutClear 1 = .ok (.invokevirtual 82, 3) := by decide +kernel
theorem dX8_carryOutClear_4 : decode cX8_carryOutClear 4 = .ok (.istore_n 2, 1) := by decide +kernel
theorem dX8_carryOutClear_5 : decode cX8_carryOutClear 5 = .ok (.aload_n 0, 1) := by decide +kernel
theorem dX8_carryOutClear_6 : decode cX8_carryOutClear 6 = .ok (.iload_n 2, 1) := by decide +kernel
theorem dX8_carryOutClear_7 : decode cX8_carryOutClear 7 = .ok (.iconst 1, 1) := by decide +kernel
theorem dX8_carryOutClear_8 : decode cX8_carryOutClear 8 = .ok (.bipush 100, 2) := by decide +kernel
theorem dX8_carryOutClear_10 : decode cX8_carryOutClear 10 = .ok (.invokevirtual 149, 3) := by decide +kernel
theorem dX8_carryOutClear_13 : decode cX8_carryOutClear 13 = .ok (.istore_n 3, 1) := by decide +kernel
theorem dX8_carryOutClear_14 : decode cX8_carryOutClear 14 = .ok (.iload_n 3, 1) := by decide +kernel
theorem dX8_carryOutClear_15 : decode cX8_carryOutClear 15 = .ok (.ifCond .ne 8, 3) := by decide +kernel
theorem dX8_carryOutClear_18 : decode cX8_carryOutClear 18 = .ok (.aload_n 1, 1) := by decide +kernel
theorem dX8_carryOutClear_19 : decode cX8_carryOutClear 19 = .ok (.iload_n 2, 1) := by decide +kernel
theorem dX8_carryOutClear_20 : decode cX8_carryOutClear 20 = .ok (.putfield 152, 3) := by decide +kernel
theorem dX8_carryOutClear_23 : decode cX8_carryOutClear 23 = .ok (.iload_n 3, 1) := by decide +kernel
theorem dX8_carryOutClear_24 : decode cX8_carryOutClear 24 = .ok (.ireturn, 1) := by decide +kernel
set_option maxRecDepth 20000 in
theorem ggX8_carryOutChange_X8_readNumber : GoodIn wsX8_carryOutChange wsX8_readNumber := goodIn_r _ [5, 6, 7, 8, 9, 4, 10, 11, 12, 13, 14, 15, 16, 36, 37, 38, 39, 40, 41, 42] (by decide +kernel) (by decide +kernel)
set_option maxRecDepth 20000 in
theorem gX8_carryOutChange_X8_readNumber : GoodIn wsX8_carryOutChange (wsV RX8 82 RX8 yX8_readNumber wsX8_readNumber) := goodIn_app (goodIn_of _ (by decide +kernel)) ggX8_carryOutChange_X8_readNumber
set_option maxRecDepth 20000 in
theorem ggX8_carryOutChange_X8_reasonOf : GoodIn wsX8_carryOutChange wsX8_reasonOf := goodIn_r _ [20, 7, 8, 9, 4, 10, 6, 11, 12, 13, 14, 15, 16, 36, 37, 38, 39, 40, 41, 42] (by decide +kernel) (by decide +kernel)
set_option maxRecDepth 20000 in
theorem gX8_carryOutChange_X8_reasonOf : GoodIn wsX8_carryOutChange (wsV RX8 149 RX8 yX8_reasonOf wsX8_reasonOf) := goodIn_app (goodIn_of _ (by decide +kernel)) ggX8_carryOutChange_X8_reasonOf
theorem dX8_carryOutChange_0 : decode cX8_carryOutChange 0 = .ok (.aload_n 0, 1) := by decide +kernel
theorem dX8_carryOutChange_1 : decode cX8_carryOutChange 1 = .ok (.invokevirtual 82, 3) := by decide +kernel
theorem dX8_carryOutChange_4 : decode cX8_carryOutChange 4 = .ok (.istore_n 2, 1) := by decide +kernel
theorem dX8_carryOutChange_5 : decode cX8_carryOutChange 5 = .ok (.aload_n 0, 1) := by decide +kernel
theorem dX8_carryOutChange_6 : decode cX8_carryOutChange 6 = .ok (.iload_n 2, 1) := by decide +kernel
theorem dX8_carryOutChange_7 : decode cX8_carryOutChange 7 = .ok (.iconst 0, 1) := by decide +kernel
theorem dX8_carryOutChange_8 : decode cX8_carryOutChange 8 = .ok (.bipush 50, 2) := by decide +kernel
theorem dX8_carryOutChange_10 : decode cX8_carryOutChange 10 = .ok (.invokevirtual 149, 3) := by decide +kernel
theorem dX8_carryOutChange_13 : decode cX8_carryOutChange 13 = .ok (.istore_n 3, 1) := by decide +kernel
theorem dX8_carryOutChange_14 : decode cX8_carryOutChange 14 = .ok (.iload_n 3, 1) := by decide +kernel
theorem dX8_carryOutChange_15 : decode cX8_carryOutChange 15 = .ok (.ifCond .ne 11, 3) := by decide +kernel
theorem dX8_carryOutChange_18 : decode cX8_carryOutChange 18 = .ok (.aload_n 1, 1) := by decide +kernel
theorem dX8_carryOutChange_19 : decode cX8_carryOutChange 19 = .ok (.getfield 126, 3) := by decide +kernel
theorem dX8_carryOutChange_22 : decode cX8_carryOutChange 22 = .ok (.iload_n 2, 1) := by decide +kernel
theorem dX8_carryOutChange_23 : decode cX8_carryOutChange 23 = .ok (.putfield 154, 3) := by decide +kernel
theorem dX8_carryOutChange_26 : decode cX8_carryOutChange 26 = .ok (.iload_n 3, 1) := by decide +kernel
theorem dX8_carryOutChange_27 : decode cX8_carryOutChange 27 = .ok (.ireturn, 1) := by decide +kernel
set_option maxRecDepth 20000 in
theorem ggX8_reasonOf_X8_skips : GoodIn wsX8_reasonOf wsX8_skips := goodIn_r _ [5, 6, 7, 8, 9, 4, 10, 11, 12, 13, 14, 15, 16, 17, 18, 19] (by decide +kernel) (by decide +kernel)
set_option maxRecDepth 20000 in
theorem gX8_reasonOf_X8_skips : GoodIn wsX8_reasonOf (wsV RX8 87 RX8 yX8_skips wsX8_skips) := goodIn_app (goodIn_of _ (by decide +kernel)) ggX8_reasonOf_X8_skips
theorem dX8_reasonOf_0 : decode cX8_reasonOf 0 = .ok (.iload_n 1, 1) := by decide +kernel
theorem dX8_reasonOf_1 : decode cX8_reasonOf 1 = .ok (.iconst (-1), 1) := by decide +kernel
theorem dX8_reasonOf_2 : decode cX8_reasonOf 2 = .ok (.if_icmp .ne 5, 3) := by decide +kernel
theorem dX8_reasonOf_5 : decode cX8_reasonOf 5 = .ok (.iconst 2, 1) := by decide +kernel
theorem dX8_reasonOf_6 : decode cX8_reasonOf 6 = .ok (.ireturn, 1) := by decide +kernel
theorem dX8_reasonOf_7 : decode cX8_reasonOf 7 = .ok (.iload_n 1, 1) := by decide +kernel
theorem dX8_reasonOf_8 : decode cX8_reasonOf 8 = .ok (.iload_n 2, 1) := by decide +kernel
theorem dX8_reasonOf_9 : decode cX8_reasonOf 9 = .ok (.if_icmp .lt 8, 3) := by decide +kernel
theorem dX8_reasonOf_12 : decode cX8_reasonOf 12 = .ok (.iload_n 1, 1) := by decide +kernel
theorem dX8_reasonOf_13 : decode cX8_reasonOf 13 = .ok (.iload_n 3, 1) := by decide +kernel
theorem dX8_reasonOf_14 : decode cX8_reasonOf 14 = .ok (.if_icmp .le 5, 3) := by decide +kernel
theorem dX8_reasonOf_17 : decode cX8_reasonOf 17 = .ok (.iconst 3, 1) := by decide +kernel
theorem dX8_reasonOf_18 : decode cX8_reasonOf 18 = .ok (.ireturn, 1) := by decide +kernel
theorem dX8_reasonOf_19 : decode cX8_reasonOf 19 = .ok (.aload_n 0, 1) := by decide +kernel
theorem dX8_reasonOf_20 : decode cX8_reasonOf 20 = .ok (.bipush 59, 2) := by decide +kernel
theorem dX8_reasonOf_22 : decode cX8_reasonOf 22 = .ok (.invokevirtual 87, 3) := by decide +kernel
theorem dX8_reasonOf_25 : decode cX8_reasonOf 25 = .ok (.ifCond .eq 7, 3) := by decide +kernel
theorem dX8_reasonOf_28 : decode cX8_reasonOf 28 = .ok (.iconst 0, 1) := by decide +kernel
theorem dX8_reasonOf_29 : decode cX8_reasonOf 29 = .ok (.goto 5, 3) := by decide +kernel
theorem dX8_reasonOf_32 : decode cX8_reasonOf 32 = .ok (.bipush 6, 2) := by decide +kernel
theorem dX8_reasonOf_34 : decode cX8_reasonOf 34 = .ok (.ireturn, 1) := by decide +kernel
set_option maxRecDepth 20000 in
theorem ggX8_readColor_X8_skips : GoodIn wsX8_readColor wsX8_skips := goodIn_r _ [6, 1, 7, 8, 9, 5, 10, 11, 12, 70, 71, 72, 73, 74, 75, 76] (by decide +kernel) (by decide +kernel)
set_option maxRecDepth 20000 in
theorem gX8_readColor_X8_skips : GoodIn wsX8_readColor (wsV RX8 87 RX8 yX8_skips wsX8_skips) := goodIn_app (goodIn_of _ (by decide +kernel)) ggX8_readColor_X8_skips
set_option maxRecDepth 20000 in
theorem ggX8_readColor_X8_skipLetters : GoodIn wsX8_readColor wsX8_skipLetters := goodIn_r _ [16, 1, 7, 8, 9, 5, 10, 11, 12, 70, 71, 72, 73, 74, 75, 76] (by decide +kernel) (by decide +kernel)
set_option maxRecDepth 20000 in
theorem gX8_readColor_X8_skipLetters : GoodIn wsX8_readColor (wsV RX8 41 RX8 yX8_skipLetters wsX8_skipLetters) := goodIn_app (goodIn_of _ (by decide +kernel)) ggX8_readColor_X8_skipLetters
set_option maxRecDepth 20000 in
theorem ggX8_readColor_X8_isWord : GoodIn wsX8_readColor wsX8_isWord := goodIn_r _ [20, 1, 21, 22, 23, 24, 25, 26, 27, 28, 29, 30, 31, 32, 7, 8, 9, 5, 10, 11, 12, 33, 34, 35, 36, 37, 38, 39, 40, 41, 42, 43, 44, 45, 46, 47, 48, 49, 50, 51, 52, 53, 54, 55, 56, 57, 58, 59, 60, 61, 62, 63, 64, 65, 66, 67, 68, 69, 70, 71, 72, 73, 74, 75, 76] (by decide +kernel) (by decide +kernel)
set_option maxRecDepth 20000 in
theorem gX8_readColor_X8_isWord : GoodIn wsX8_readColor (wsV RX8 46 RX8 yX8_isWord wsX8_isWord) := goodIn_app (goodIn_of _ (by decide +kernel)) ggX8_readColor_X8_isWord
theorem dX8_readColor_0 : decode cX8_readColor 0 = .ok (.aload_n 0, 1) := by decide +kernel
theorem dX8_readColor_1 : decode cX8_readColor 1 = .ok (.bipush 32, 2) := by decide +kernel
theorem dX8_readColor_3 : decode cX8_readColor 3 = .ok (.invokevirtual 87, 3) := by decide +kernel
theorem dX8_readColor_6 : decode cX8_readColor 6 = .ok (.ifCond .ne 5, 3) := by decide +kernel
theorem dX8_readColor_9 : decode cX8_readColor 9 = .ok (.iconst (-1), 1) := by decide +kernel
theorem dX8_readColor_10 : decode cX8_readColor 10 = .ok (.ireturn, 1) := by decide +kernel
theorem dX8_readColor_11 : decode cX8_readColor 11 = .ok (.aload_n 0, 1) := by decide +kernel
theorem dX8_readColor_12 : decode cX8_readColor 12 = .ok (.getfield 25, 3) := by decide +kernel
theorem dX8_readColor_15 : decode cX8_readColor 15 = .ok (.istore_n 1, 1) := by decide +kernel
theorem dX8_readColor_16 : decode cX8_readColor 16 = .ok (.aload_n 0, 1) := by decide +kernel
theorem dX8_readColor_17 : decode cX8_readColor 17 = .ok (.invokevirtual 41, 3) := by decide +kernel
theorem dX8_readColor_20 : decode cX8_readColor 20 = .ok (.aload_n 0, 1) := by decide +kernel
theorem dX8_readColor_21 : decode cX8_readColor 21 = .ok (.iload_n 1, 1) := by decide +kernel
theorem dX8_readColor_22 : decode cX8_readColor 22 = .ok (.ldc 156, 2) := by decide +kernel
theorem dX8_readColor_24 : decode cX8_readColor 24 = .ok (.invokevirtual 46, 3) := by decide +kernel
theorem dX8_readColor_27 : decode cX8_readColor 27 = .ok (.ifCond .eq 5, 3) := by decide +kernel
theorem dX8_readColor_30 : decode cX8_readColor 30 = .ok (.iconst 0, 1) := by decide +kernel
theorem dX8_readColor_31 : decode cX8_readColor 31 = .ok (.ireturn, 1) := by decide +kernel
theorem dX8_readColor_32 : decode cX8_readColor 32 = .ok (.aload_n 0, 1) := by decide +kernel
theorem dX8_readColor_33 : decode cX8_readColor 33 = .ok (.iload_n 1, 1) := by decide +kernel
theorem dX8_readColor_34 : decode cX8_readColor 34 = .ok (.ldc 158, 2) := by decide +kernel
theorem dX8_readColor_36 : decode cX8_readColor 36 = .ok (.invokevirtual 46, 3) := by decide +kernel
theorem dX8_readColor_39 : decode cX8_readColor 39 = .ok (.ifCond .eq 5, 3) := by decide +kernel
theorem dX8_readColor_42 : decode cX8_readColor 42 = .ok (.iconst 1, 1) := by decide +kernel
theorem dX8_readColor_43 : decode cX8_readColor 43 = .ok (.ireturn, 1) := by decide +kernel
theorem dX8_readColor_44 : decode cX8_readColor 44 = .ok (.aload_n 0, 1) := by decide +kernel
theorem dX8_readColor_45 : decode cX8_readColor 45 = .ok (.iload_n 1, 1) := by decide +kernel
theorem dX8_readColor_46 : decode cX8_readColor 46 = .ok (.ldc 160, 2) := by decide +kernel
theorem dX8_readColor_48 : decode cX8_readColor 48 = .ok (.invokevirtual 46, 3) := by decide +kernel
theorem dX8_readColor_51 : decode cX8_readColor 51 = .ok (.ifCond .eq 5, 3) := by decide +kernel
theorem dX8_readColor_54 : decode cX8_readColor 54 = .ok (.iconst 2, 1) := by decide +kernel
theorem dX8_readColor_55 : decode cX8_readColor 55 = .ok (.ireturn, 1) := by decide +kernel
theorem dX8_readColor_56 : decode cX8_readColor 56 = .ok (.aload_n 0, 1) := by decide +kernel
theorem dX8_readColor_57 : decode cX8_readColor 57 = .ok (.iload_n 1, 1) := by decide +kernel
theorem dX8_readColor_58 : decode cX8_readColor 58 = .ok (.ldc 162, 2) := by decide +kernel
theorem dX8_readColor_60 : decode cX8_readColor 60 = .ok (.invokevirtual 46, 3) := by decide +kernel
theorem dX8_readColor_63 : decode cX8_readColor 63 = .ok (.ifCond .eq 7, 3) := by decide +kernel
theorem dX8_readColor_66 : decode cX8_readColor 66 = .ok (.iconst 3, 1) := by decide +kernel
theorem dX8_readColor_67 : decode cX8_readColor 67 = .ok (.goto 4, 3) := by decide +kernel
theorem dX8_readColor_70 : decode cX8_readColor 70 = .ok (.iconst (-1), 1) := by decide +kernel
theorem dX8_readColor_71 : decode cX8_readColor 71 = .ok (.ireturn, 1) := by decide +kernel
set_option maxRecDepth 20000 in
theorem ggX8_readEither_X8_skips : GoodIn wsX8_readEither wsX8_skips := goodIn_r _ [6, 1, 7, 8, 9, 5, 10, 11, 12, 70, 71, 72, 73, 74, 75, 76] (by decide +kernel) (by decide +kernel)
set_option maxRecDepth 20000 in
theorem gX8_readEither_X8_skips : GoodIn wsX8_readEither (wsV RX8 87 RX8 yX8_skips wsX8_skips) := goodIn_app (goodIn_of _ (by decide +kernel)) ggX8_readEither_X8_skips
set_option maxRecDepth 20000 in
theorem ggX8_readEither_X8_skipLetters : GoodIn wsX8_readEither wsX8_skipLetters := goodIn_r _ [16, 1, 7, 8, 9, 5, 10, 11, 12, 70, 71, 72, 73, 74, 75, 76] (by decide +kernel) (by decide +kernel)
set_option maxRecDepth 20000 in
theorem gX8_readEither_X8_skipLetters : GoodIn wsX8_readEither (wsV RX8 41 RX8 yX8_skipLetters wsX8_skipLetters) := goodIn_app (goodIn_of _ (by decide +kernel)) ggX8_readEither_X8_skipLetters
set_option maxRecDepth 20000 in
theorem ggX8_readEither_X8_isWord : GoodIn wsX8_readEither wsX8_isWord := goodIn_r _ [20, 1, 21, 22, 23, 24, 25, 26, 27, 28, 29, 30, 31, 32, 7, 8, 9, 5, 10, 11, 12, 33, 34, 35, 36, 37, 38, 39, 40, 41, 42, 43, 44, 45, 46, 47, 48, 49, 50, 51, 52, 53, 54, 55, 56, 57, 58, 59, 60, 61, 62, 63, 64, 65, 66, 67, 68, 69, 70, 71, 72, 73, 74, 75, 76] (by decide +kernel) (by decide +kernel)
set_option maxRecDepth 20000 in
theorem gX8_readEither_X8_isWord : GoodIn wsX8_readEither (wsV RX8 46 RX8 yX8_isWord wsX8_isWord) := goodIn_app (goodIn_of _ (by decide +kernel)) ggX8_readEither_X8_isWord
theorem dX8_readEither_0 : decode cX8_readEither 0 = .ok (.aload_n 0, 1) := by decide +kernel
theorem dX8_readEither_1 : decode cX8_readEither 1 = .ok (.bipush 32, 2) := by decide +kernel
theorem dX8_readEither_3 : decode cX8_readEither 3 = .ok (.invokevirtual 87, 3) := by decide +kernel
theorem dX8_readEither_6 : decode cX8_readEither 6 = .ok (.ifCond .ne 5, 3) := by decide +kernel
theorem dX8_readEither_9 : decode cX8_readEither 9 = .ok (.iconst (-1), 1) := by decide +kernel
theorem dX8_readEither_10 : decode cX8_readEither 10 = .ok (.ireturn, 1) := by decide +kernel
theorem dX8_readEither_11 : decode cX8_readEither 11 = .ok (.aload_n 0, 1) := by decide +kernel
theorem dX8_readEither_12 : decode cX8_readEither 12 = .ok (.getfield 25, 3) := by decide +kernel
theorem dX8_readEither_15 : decode cX8_readEither 15 = .ok (.istore_n 3, 1) := by decide +kernel
theorem dX8_readEither_16 : decode cX8_readEither 16 = .ok (.aload_n 0, 1) := by decide +kernel
theorem dX8_readEither_17 : decode cX8_readEither 17 = .ok (.invokevirtual 41, 3) := by decide +kernel
theorem dX8_readEither_20 : decode cX8_readEither 20 = .ok (.aload_n 0, 1) := by decide +kernel
theorem dX8_readEither_21 : decode cX8_readEither 21 = .ok (.iload_n 3, 1) := by decide +kernel
theorem dX8_readEither_22 : decode cX8_readEither 22 = .ok (.aload_n 1, 1) := by decide +kernel
theorem dX8_readEither_23 : decode cX8_readEither 23 = .ok (.invokevirtual 46, 3) := by decide +kernel
theorem dX8_readEither_26 : decode cX8_readEither 26 = .ok (.ifCond .eq 5, 3) := by decide +kernel
theorem dX8_readEither_29 : decode cX8_readEither 29 = .ok (.iconst 0, 1) := by decide +kernel
theorem dX8_readEither_30 : decode cX8_readEither 30 = .ok (.ireturn, 1) := by decide +kernel
theorem dX8_readEither_31 : decode cX8_readEither 31 = .ok (.aload_n 0, 1) := by decide +kernel
theorem dX8_readEither_32 : decode cX8_readEither 32 = .ok (.iload_n 3, 1) := by decide +kernel
theorem dX8_readEither_33 : decode cX8_readEither 33 = .ok (.aload_n 2, 1) := by decide +kernel
theorem dX8_readEither_34 : decode cX8_readEither 34 = .ok (.invokevirtual 46, 3) := by decide +kernel
theorem dX8_readEither_37 : decode cX8_readEither 37 = .ok (.ifCond .eq 7, 3) := by decide +kernel
theorem dX8_readEither_40 : decode cX8_readEither 40 = .ok (.iconst 1, 1) := by decide +kernel
theorem dX8_readEither_41 : decode cX8_readEither 41 = .ok (.goto 4, 3) := by decide +kernel
theorem dX8_readEither_44 : decode cX8_readEither 44 = .ok (.iconst (-1), 1) := by decide +kernel
theorem dX8_readEither_45 : decode cX8_readEither 45 = .ok (.ireturn, 1) := by decide +kernel
set_option maxRecDepth 20000 in
theorem ggX8_readNumber_X8_skips : GoodIn wsX8_readNumber wsX8_skips := goodIn_r _ [6, 1, 7, 8, 9, 5, 10, 11, 12, 13, 14, 15, 16, 17, 18, 19] (by decide +kernel) (by decide +kernel)
set_option maxRecDepth 20000 in
theorem gX8_readNumber_X8_skips : GoodIn wsX8_readNumber (wsV RX8 87 RX8 yX8_skips wsX8_skips) := goodIn_app (goodIn_of _ (by decide +kernel)) ggX8_readNumber_X8_skips
set_option maxRecDepth 20000 in
theorem ggX8_readNumber_X8_signAt : GoodIn wsX8_readNumber wsX8_signAt := goodIn_r _ [10, 11, 12, 13, 14, 15, 16, 17, 18, 19] (by decide +kernel) (by decide +kernel)
set_option maxRecDepth 20000 in
theorem gX8_readNumber_X8_signAt : GoodIn wsX8_readNumber (wsV RX8 103 RX8 yX8_signAt wsX8_signAt) := goodIn_app (goodIn_of _ (by decide +kernel)) ggX8_readNumber_X8_signAt
theorem dX8_readNumber_0 : decode cX8_readNumber 0 = .ok (.aload_n 0, 1) := by decide +kernel
theorem dX8_readNumber_1 : decode cX8_readNumber 1 = .ok (.bipush 32, 2) := by decide +kernel
theorem dX8_readNumber_3 : decode cX8_readNumber 3 = .ok (.invokevirtual 87, 3) := by decide +kernel
theorem dX8_readNumber_6 : decode cX8_readNumber 6 = .ok (.ifCond .ne 5, 3) := by decide +kernel
theorem dX8_readNumber_9 : decode cX8_readNumber 9 = .ok (.iconst (-1), 1) := by decide +kernel
theorem dX8_readNumber_10 : decode cX8_readNumber 10 = .ok (.ireturn, 1) := by decide +kernel
theorem dX8_readNumber_11 : decode cX8_readNumber 11 = .ok (.iconst 0, 1) := by decide +kernel
theorem dX8_readNumber_12 : decode cX8_readNumber 12 = .ok (.istore_n 1, 1) := by decide +kernel
theorem dX8_readNumber_13 : decode cX8_readNumber 13 = .ok (.iconst 0, 1) := by decide +kernel
theorem dX8_readNumber_14 : decode cX8_readNumber 14 = .ok (.istore_n 2, 1) := by decide +kernel
theorem dX8_readNumber_15 : decode cX8_readNumber 15 = .ok (.iload_n 2, 1) := by decide +kernel
theorem dX8_readNumber_16 : decode cX8_readNumber 16 = .ok (.iconst 4, 1) := by decide +kernel
theorem dX8_readNumber_17 : decode cX8_readNumber 17 = .ok (.if_icmp .ge 62, 3) := by decide +kernel
theorem dX8_readNumber_20 : decode cX8_readNumber 20 = .ok (.aload_n 0, 1) := by decide +kernel
theorem dX8_readNumber_21 : decode cX8_readNumber 21 = .ok (.aload_n 0, 1) := by decide +kernel
theorem dX8_readNumber_22 : decode cX8_readNumber 22 = .ok (.getfield 25, 3) := by decide +kernel
theorem dX8_readNumber_25 : decode cX8_readNumber 25 = .ok (.invokevirtual 103, 3) := by decide +kernel
theorem dX8_readNumber_28 : decode cX8_readNumber 28 = .ok (.bipush 48, 2) := by decide +kernel
theorem dX8_readNumber_30 : decode cX8_readNumber 30 = .ok (.if_icmp .lt 49, 3) := by decide +kernel
theorem dX8_readNumber_33 : decode cX8_readNumber 33 = .ok (.aload_n 0, 1) := by decide +kernel
theorem dX8_readNumber_34 : decode cX8_readNumber 34 = .ok (.aload_n 0, 1) := by decide +kernel
theorem dX8_readNumber_35 : decode cX8_readNumber 35 = .ok (.getfield 25, 3) := by decide +kernel
theorem dX8_readNumber_38 : decode cX8_readNumber 38 = .ok (.invokevirtual 103, 3) := by decide +kernel
theorem dX8_readNumber_41 : decode cX8_readNumber 41 = .ok (.bipush 57, 2) := by decide +kernel
theorem dX8_readNumber_43 : decode cX8_readNumber 43 = .ok (.if_icmp .gt 36, 3) := by decide +kernel
theorem dX8_readNumber_46 : decode cX8_readNumber 46 = .ok (.iload_n 1, 1) := by decide +kernel
theorem dX8_readNumber_47 : decode cX8_readNumber 47 = .ok (.bipush 10, 2) := by decide +kernel
theorem dX8_readNumber_49 : decode cX8_readNumber 49 = .ok (.imul, 1) := by decide +kernel
theorem dX8_readNumber_50 : decode cX8_readNumber 50 = .ok (.aload_n 0, 1) := by decide +kernel
theorem dX8_readNumber_51 : decode cX8_readNumber 51 = .ok (.aload_n 0, 1) := by decide +kernel
theorem dX8_readNumber_52 : decode cX8_readNumber 52 = .ok (.getfield 25, 3) := by decide +kernel
theorem dX8_readNumber_55 : decode cX8_readNumber 55 = .ok (.invokevirtual 103, 3) := by decide +kernel
theorem dX8_readNumber_58 : decode cX8_readNumber 58 = .ok (.bipush 48, 2) := by decide +kernel
theorem dX8_readNumber_60 : decode cX8_readNumber 60 = .ok (.isub, 1) := by decide +kernel
theorem dX8_readNumber_61 : decode cX8_readNumber 61 = .ok (.iadd, 1) := by decide +kernel
theorem dX8_readNumber_62 : decode cX8_readNumber 62 = .ok (.istore_n 1, 1) := by decide +kernel
theorem dX8_readNumber_63 : decode cX8_readNumber 63 = .ok (.iinc 2 1, 3) := by decide +kernel
theorem dX8_readNumber_66 : decode cX8_readNumber 66 = .ok (.aload_n 0, 1) := by decide +kernel
theorem dX8_readNumber_67 : decode cX8_readNumber 67 = .ok (.dup, 1) := by decide +kernel
theorem dX8_readNumber_68 : decode cX8_readNumber 68 = .ok (.getfield 25, 3) := by decide +kernel
theorem dX8_readNumber_71 : decode cX8_readNumber 71 = .ok (.iconst 1, 1) := by decide +kernel
theorem dX8_readNumber_72 : decode cX8_readNumber 72 = .ok (.iadd, 1) := by decide +kernel
theorem dX8_readNumber_73 : decode cX8_readNumber 73 = .ok (.putfield 25, 3) := by decide +kernel
theorem dX8_readNumber_76 : decode cX8_readNumber 76 = .ok (.goto (-61), 3) := by decide +kernel
theorem dX8_readNumber_79 : decode cX8_readNumber 79 = .ok (.iload_n 2, 1) := by decide +kernel
theorem dX8_readNumber_80 : decode cX8_readNumber 80 = .ok (.ifCond .ne 7, 3) := by decide +kernel
theorem dX8_readNumber_83 : decode cX8_readNumber 83 = .ok (.iconst (-1), 1) := by decide +kernel
theorem dX8_readNumber_84 : decode cX8_readNumber 84 = .ok (.goto 4, 3) := by decide +kernel
theorem dX8_readNumber_87 : decode cX8_readNumber 87 = .ok (.iload_n 1, 1) := by decide +kernel
theorem dX8_readNumber_88 : decode cX8_readNumber 88 = .ok (.ireturn, 1) := by decide +kernel
set_option maxRecDepth 20000 in
theorem ggX8_skipLetters_X8_signAt : GoodIn wsX8_skipLetters wsX8_signAt := goodIn_r _ [6, 7, 8, 9, 10, 11, 12, 13, 14, 15] (by decide +kernel) (by decide +kernel)
set_option maxRecDepth 20000 in
theorem gX8_skipLetters_X8_signAt : GoodIn wsX8_skipLetters (wsV RX8 103 RX8 yX8_signAt wsX8_signAt) := goodIn_app (goodIn_of _ (by decide +kernel)) ggX8_skipLetters_X8_signAt
theorem dX8_skipLetters_0 : decode cX8_skipLetters 0 = .ok (.iconst 0, 1) := by decide +kernel
theorem dX8_skipLetters_1 : decode cX8_skipLetters 1 = .ok (.istore_n 1, 1) := by decide +kernel
theorem dX8_skipLetters_2 : decode cX8_skipLetters 2 = .ok (.iload_n 1, 1) := by decide +kernel
theorem dX8_skipLetters_3 : decode cX8_skipLetters 3 = .ok (.bipush 120, 2) := by decide +kernel
theorem dX8_skipLetters_5 : decode cX8_skipLetters 5 = .ok (.if_icmp .ge 45, 3) := by decide +kernel
theorem dX8_skipLetters_8 : decode cX8_skipLetters 8 = .ok (.aload_n 0, 1) := by decide +kernel
theorem dX8_skipLetters_9 : decode cX8_skipLetters 9 = .ok (.aload_n 0, 1) := by decide +kernel
theorem dX8_skipLetters_10 : decode cX8_skipLetters 10 = .ok (.getfield 25, 3) := by decide +kernel
theorem dX8_skipLetters_13 : decode cX8_skipLetters 13 = .ok (.invokevirtual 103, 3) := by decide +kernel
theorem dX8_skipLetters_16 : decode cX8_skipLetters 16 = .ok (.bipush 97, 2) := by decide +kernel
theorem dX8_skipLetters_18 : decode cX8_skipLetters 18 = .ok (.if_icmp .lt 32, 3) := by decide +kernel
theorem dX8_skipLetters_21 : decode cX8_skipLetters 21 = .ok (.aload_n 0, 1) := by decide +kernel
theorem dX8_skipLetters_22 : decode cX8_skipLetters 22 = .ok (.aload_n 0, 1) := by decide +kernel
theorem dX8_skipLetters_23 : decode cX8_skipLetters 23 = .ok (.getfield 25, 3) := by decide +kernel
theorem dX8_skipLetters_26 : decode cX8_skipLetters 26 = .ok (.invokevirtual 103, 3) := by decide +kernel
theorem dX8_skipLetters_29 : decode cX8_skipLetters 29 = .ok (.bipush 122, 2) := by decide +kernel
theorem dX8_skipLetters_31 : decode cX8_skipLetters 31 = .ok (.if_icmp .gt 19, 3) := by decide +kernel
theorem dX8_skipLetters_34 : decode cX8_skipLetters 34 = .ok (.aload_n 0, 1) := by decide +kernel
theorem dX8_skipLetters_35 : decode cX8_skipLetters 35 = .ok (.dup, 1) := by decide +kernel
theorem dX8_skipLetters_36 : decode cX8_skipLetters 36 = .ok (.getfield 25, 3) := by decide +kernel
theorem dX8_skipLetters_39 : decode cX8_skipLetters 39 = .ok (.iconst 1, 1) := by decide +kernel
theorem dX8_skipLetters_40 : decode cX8_skipLetters 40 = .ok (.iadd, 1) := by decide +kernel
theorem dX8_skipLetters_41 : decode cX8_skipLetters 41 = .ok (.putfield 25, 3) := by decide +kernel
theorem dX8_skipLetters_44 : decode cX8_skipLetters 44 = .ok (.iinc 1 1, 3) := by decide +kernel
theorem dX8_skipLetters_47 : decode cX8_skipLetters 47 = .ok (.goto (-45), 3) := by decide +kernel
theorem dX8_skipLetters_50 : decode cX8_skipLetters 50 = .ok (.return_, 1) := by decide +kernel
set_option maxRecDepth 20000 in
theorem ggX8_skips_X8_signAt : GoodIn wsX8_skips wsX8_signAt := goodIn_r _ [6, 7, 8, 9, 10, 11, 12, 13, 14, 15] (by decide +kernel) (by decide +kernel)
set_option maxRecDepth 20000 in
theorem gX8_skips_X8_signAt : GoodIn wsX8_skips (wsV RX8 103 RX8 yX8_signAt wsX8_signAt) := goodIn_app (goodIn_of _ (by decide +kernel)) ggX8_skips_X8_signAt
theorem dX8_skips_0 : decode cX8_skips 0 = .ok (.aload_n 0, 1) := by decide +kernel
theorem dX8_skips_1 : decode cX8_skips 1 = .ok (.aload_n 0, 1) := by decide +kernel
theorem dX8_skips_2 : decode cX8_skips 2 = .ok (.getfield 25, 3) := by decide +kernel
theorem dX8_skips_5 : decode cX8_skips 5 = .ok (.invokevirtual 103, 3) := by decide +kernel
theorem dX8_skips_8 : decode cX8_skips 8 = .ok (.iload_n 1, 1) := by decide +kernel
theorem dX8_skips_9 : decode cX8_skips 9 = .ok (.if_icmp .eq 5, 3) := by decide +kernel
theorem dX8_skips_12 : decode cX8_skips 12 = .ok (.iconst 0, 1) := by decide +kernel
theorem dX8_skips_13 : decode cX8_skips 13 = .ok (.ireturn, 1) := by decide +kernel
theorem dX8_skips_14 : decode cX8_skips 14 = .ok (.aload_n 0, 1) := by decide +kernel
theorem dX8_skips_15 : decode cX8_skips 15 = .ok (.dup, 1) := by decide +kernel
theorem dX8_skips_16 : decode cX8_skips 16 = .ok (.getfield 25, 3) := by decide +kernel
theorem dX8_skips_19 : decode cX8_skips 19 = .ok (.iconst 1, 1) := by decide +kernel
theorem dX8_skips_20 : decode cX8_skips 20 = .ok (.iadd, 1) := by decide +kernel
theorem dX8_skips_21 : decode cX8_skips 21 = .ok (.putfield 25, 3) := by decide +kernel
theorem dX8_skips_24 : decode cX8_skips 24 = .ok (.iconst 1, 1) := by decide +kernel
theorem dX8_skips_25 : decode cX8_skips 25 = .ok (.ireturn, 1) := by decide +kernel
set_option maxRecDepth 20000 in
theorem ggX8_isWord_J0_length_8abf5 : GoodIn wsX8_isWord wsJ0_length_8abf5 := goodIn_r _ [6, 7, 8, 9, 10, 5, 11, 12, 13] (by decide +kernel) (by decide +kernel)
set_option maxRecDepth 20000 in
theorem gX8_isWord_J0_length_8abf5 : GoodIn wsX8_isWord (wsV RX8 164 RJ0 yJ0_length_8abf5 wsJ0_length_8abf5) := goodIn_app (goodIn_of _ (by decide +kernel)) ggX8_isWord_J0_length_8abf5
set_option maxRecDepth 20000 in
theorem ggX8_isWord_X8_signAt : GoodIn wsX8_isWord wsX8_signAt := goodIn_r _ [18, 19, 20, 58, 59, 60, 61, 62, 63, 64] (by decide +kernel) (by decide +kernel)
set_option maxRecDepth 20000 in
theorem gX8_isWord_X8_signAt : GoodIn wsX8_isWord (wsV RX8 103 RX8 yX8_signAt wsX8_signAt) := goodIn_app (goodIn_of _ (by decide +kernel)) ggX8_isWord_X8_signAt
set_option maxRecDepth 20000 in
theorem ggX8_isWord_J0_charAt_5068e : GoodIn wsX8_isWord wsJ0_charAt_5068e := goodIn_r _ [24, 7, 25, 26, 27, 5, 28, 12, 13, 29, 30, 31, 32, 33, 34, 35, 36, 37, 38, 39, 40, 41, 42, 43, 44, 45, 46, 47, 48, 49, 50, 51, 52, 53, 54, 55, 56, 57] (by decide +kernel) (by decide +kernel)
set_option maxRecDepth 20000 in
theorem gX8_isWord_J0_charAt_5068e : GoodIn wsX8_isWord (wsV RX8 168 RJ0 yJ0_charAt_5068e wsJ0_charAt_5068e) := goodIn_app (goodIn_of _ (by decide +kernel)) ggX8_isWord_J0_charAt_5068e
theorem dX8_isWord_0 : decode cX8_isWord 0 = .ok (.aload_n 0, 1) := by decide +kernel
theorem dX8_isWord_1 : decode cX8_isWord 1 = .ok (.getfield 25, 3) := by decide +kernel
theorem dX8_isWord_4 : decode cX8_isWord 4 = .ok (.iload_n 1, 1) := by decide +kernel
theorem dX8_isWord_5 : decode cX8_isWord 5 = .ok (.isub, 1) := by decide +kernel
theorem dX8_isWord_6 : decode cX8_isWord 6 = .ok (.aload_n 2, 1) := by decide +kernel
theorem dX8_isWord_7 : decode cX8_isWord 7 = .ok (.invokevirtual 164, 3) := by decide +kernel
theorem dX8_isWord_10 : decode cX8_isWord 10 = .ok (.if_icmp .eq 5, 3) := by decide +kernel
theorem dX8_isWord_13 : decode cX8_isWord 13 = .ok (.iconst 0, 1) := by decide +kernel
theorem dX8_isWord_14 : decode cX8_isWord 14 = .ok (.ireturn, 1) := by decide +kernel
theorem dX8_isWord_15 : decode cX8_isWord 15 = .ok (.iconst 0, 1) := by decide +kernel
theorem dX8_isWord_16 : decode cX8_isWord 16 = .ok (.istore_n 3, 1) := by decide +kernel
theorem dX8_isWord_17 : decode cX8_isWord 17 = .ok (.iload_n 3, 1) := by decide +kernel
theorem dX8_isWord_18 : decode cX8_isWord 18 = .ok (.aload_n 2, 1) := by decide +kernel
theorem dX8_isWord_19 : decode cX8_isWord 19 = .ok (.invokevirtual 164, 3) := by decide +kernel
theorem dX8_isWord_22 : decode cX8_isWord 22 = .ok (.if_icmp .ge 26, 3) := by decide +kernel
theorem dX8_isWord_25 : decode cX8_isWord 25 = .ok (.aload_n 0, 1) := by decide +kernel
theorem dX8_isWord_26 : decode cX8_isWord 26 = .ok (.iload_n 1, 1) := by decide +kernel
theorem dX8_isWord_27 : decode cX8_isWord 27 = .ok (.iload_n 3, 1) := by decide +kernel
theorem dX8_isWord_28 : decode cX8_isWord 28 = .ok (.iadd, 1) := by decide +kernel
theorem dX8_isWord_29 : decode cX8_isWord 29 = .ok (.invokevirtual 103, 3) := by decide +kernel
theorem dX8_isWord_32 : decode cX8_isWord 32 = .ok (.aload_n 2, 1) := by decide +kernel
theorem dX8_isWord_33 : decode cX8_isWord 33 = .ok (.iload_n 3, 1) := by decide +kernel
theorem dX8_isWord_34 : decode cX8_isWord 34 = .ok (.invokevirtual 168, 3) := by decide +kernel
theorem dX8_isWord_37 : decode cX8_isWord 37 = .ok (.if_icmp .eq 5, 3) := by decide +kernel
theorem dX8_isWord_40 : decode cX8_isWord 40 = .ok (.iconst 0, 1) := by decide +kernel
theorem dX8_isWord_41 : decode cX8_isWord 41 = .ok (.ireturn, 1) := by decide +kernel
theorem dX8_isWord_42 : decode cX8_isWord 42 = .ok (.iinc 3 1, 3) := by decide +kernel
theorem dX8_isWord_45 : decode cX8_isWord 45 = .ok (.goto (-28), 3) := by decide +kernel
theorem dX8_isWord_48 : decode cX8_isWord 48 = .ok (.iconst 1, 1) := by decide +kernel
theorem dX8_isWord_49 : decode cX8_isWord 49 = .ok (.ireturn, 1) := by decide +kernel
theorem dX8_signAt_0 : decode cX8_signAt 0 = .ok (.iload_n 1, 1) := by decide +kernel
theorem dX8_signAt_1 : decode cX8_signAt 1 = .ok (.ifCond .lt 26, 3) := by decide +kernel
theorem dX8_signAt_4 : decode cX8_signAt 4 = .ok (.iload_n 1, 1) := by decide +kernel
theorem dX8_signAt_5 : decode cX8_signAt 5 = .ok (.aload_n 0, 1) := by decide +kernel
theorem dX8_signAt_6 : decode cX8_signAt 6 = .ok (.getfield 21, 3) := by decide +kernel
theorem dX8_signAt_9 : decode cX8_signAt 9 = .ok (.if_icmp .ge 18, 3) := by decide +kernel
theorem dX8_signAt_12 : decode cX8_signAt 12 = .ok (.iload_n 1, 1) := by decide +kernel
theorem dX8_signAt_13 : decode cX8_signAt 13 = .ok (.bipush 120, 2) := by decide +kernel
theorem dX8_signAt_15 : decode cX8_signAt 15 = .ok (.if_icmp .ge 12, 3) := by decide +kernel
theorem dX8_signAt_18 : decode cX8_signAt 18 = .ok (.aload_n 0, 1) := by decide +kernel
theorem dX8_signAt_19 : decode cX8_signAt 19 = .ok (.getfield 13, 3) := by decide +kernel
theorem dX8_signAt_22 : decode cX8_signAt 22 = .ok (.iload_n 1, 1) := by decide +kernel
theorem dX8_signAt_23 : decode cX8_signAt 23 = .ok (.caload, 1) := by decide +kernel
theorem dX8_signAt_24 : decode cX8_signAt 24 = .ok (.goto 4, 3) := by decide +kernel
theorem dX8_signAt_27 : decode cX8_signAt 27 = .ok (.iconst 0, 1) := by decide +kernel
theorem dX8_signAt_28 : decode cX8_signAt 28 = .ok (.ireturn, 1) := by decide +kernel
